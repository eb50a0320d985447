theorem zRow_kd {h : zH} {r : Nat} {A : List Int32} (hr : zRow h r A) : (h.1 r).1 = 4 ∧ (h.1 (r + 1)).1 = 20 := ⟨by rw [hr.1], by rw [hr.2.1]⟩
theorem zCod_kd {h : zH} {m : Nat} (hc : zCod h (m + 97)) : ∀ q, m + 97 ≤ q → q < m + 119 → (h.1 q).1 ≠ 27 := by
  obtain ⟨⟨le, ma, c0⟩, ⟨A, B, C, g0, g1, g2, g3, _⟩, ⟨K, k1, _⟩, ⟨R, k2, _⟩, ⟨N, k3, _⟩, ⟨L, k4, _⟩, ⟨E, k5, _⟩, ⟨S, k6, _⟩, ⟨P, k7, _⟩⟩ := hc
  have e0 : (h.1 (m + 97)).1 = 12 := by rw [c0]
  have e1 : (h.1 (m + 97 + 1)).1 = 10 := by rw [g0]; rfl
  have a1 := zRow_kd g1
  have a2 := zRow_kd g2
  have a3 := zRow_kd g3
  have b1 := zRow_kd k1
  have b2 := zRow_kd k2
  have b3 := zRow_kd k3
  have b4 := zRow_kd k4
  have b5 := zRow_kd k5
  have b6 := zRow_kd k6
  have b7 := zRow_kd k7
  intro q q1 q2
  obtain ⟨k, hk, rfl⟩ : ∃ k, k < 22 ∧ q = m + 97 + k := ⟨q - (m + 97), by omega, by omega⟩
  rcases (show k = 0 ∨ k = 1 ∨ k = 2 ∨ k = 3 ∨ k = 4 ∨ k = 5 ∨ k = 6 ∨ k = 7 ∨ k = 8 ∨ k = 9 ∨ k = 10 ∨ k = 11 ∨ k = 12 ∨ k = 13 ∨ k = 14 ∨ k = 15 ∨ k = 16 ∨ k = 17 ∨ k = 18 ∨ k = 19 ∨ k = 20 ∨ k = 21 by omega) with rfl | rfl | rfl | rfl | rfl | rfl | rfl | rfl | rfl | rfl | rfl | rfl | rfl | rfl | rfl | rfl | rfl | rfl | rfl | rfl | rfl | rfl
  · rw [show m + 97 + 0 = m + 97 by omega, e0]; decide
  · rw [e1]; decide
  · rw [show m + 97 + 2 = m + 97 + 1 + 1 by omega, a1.1]; decide
  · rw [show m + 97 + 3 = m + 97 + 1 + 1 + 1 by omega, a1.2]; decide
  · rw [show m + 97 + 4 = m + 97 + 1 + 3 by omega, a2.1]; decide
  · rw [show m + 97 + 5 = m + 97 + 1 + 3 + 1 by omega, a2.2]; decide
  · rw [show m + 97 + 6 = m + 97 + 1 + 5 by omega, a3.1]; decide
  · rw [show m + 97 + 7 = m + 97 + 1 + 5 + 1 by omega, a3.2]; decide
  · rw [b1.1]; decide
  · rw [show m + 97 + 9 = m + 97 + 8 + 1 by omega, b1.2]; decide
  · rw [b2.1]; decide
  · rw [show m + 97 + 11 = m + 97 + 10 + 1 by omega, b2.2]; decide
  · rw [b3.1]; decide
  · rw [show m + 97 + 13 = m + 97 + 12 + 1 by omega, b3.2]; decide
  · rw [b4.1]; decide
  · rw [show m + 97 + 15 = m + 97 + 14 + 1 by omega, b4.2]; decide
  · rw [b5.1]; decide
  · rw [show m + 97 + 17 = m + 97 + 16 + 1 by omega, b5.2]; decide
  · rw [b6.1]; decide
  · rw [show m + 97 + 19 = m + 97 + 18 + 1 by omega, b6.2]; decide
  · rw [b7.1]; decide
  · rw [show m + 97 + 21 = m + 97 + 20 + 1 by omega, b7.2]; decide
section ZSF
variable {sv : Nat → Value} {d : Nat} {h : zH} {m : Nat} {w : yW}
/-- what a call leaves: all below the class's object, and the model -/
def zfy (m N K : Nat) (h h' : zH) : Prop := (∀ q, q < m ∨ (m + 119 ≤ q ∧ q < m + 139) → h'.1 q = h.1 q) ∧ h.2.1 ≤ h'.2.1 ∧ h'.2.1 ≤ h.2.1 + N ∧ h'.2.2 ≤ h.2.2 + K
theorem zfy_fx {N K : Nat} {h' : zH} (hc : m + 139 ≤ h.2.1) (hf : zfx m (m + 119) N K h h') : zfy m N K h h' := ⟨fun q hq => hf.1 q (by omega) (by omega), hf.2⟩
theorem zfy_mono {N K N' K' : Nat} {h' : zH} (hf : zfy m N K h h') (h1 : N ≤ N') (h2 : K ≤ K') : zfy m N' K' h h' := ⟨hf.1, hf.2.1, by have := hf.2.2.1; omega, by have := hf.2.2.2; omega⟩
theorem zCls_bl (hc : zCls h m w) : ∃ v B, zBl h (m + 1) v B (yout w) ∧ (v = m + 2 ∨ (m + 139 ≤ v ∧ v < h.2.1)) := by
  obtain ⟨c0, _, _, _, _, _, _, v, B, u, e1, e2, e3, e4, e5, e6, e7⟩ := hc
  exact ⟨v, B, ⟨⟨u, e1⟩, e2, ⟨by omega, by omega, by omega⟩, e4, e5, e6, e7⟩, e3⟩
theorem zFs_bo {h' : zH} {r v : Nat} {B B' o : List Int32} {as : List Nat} {ts : List yT} (hf : zFs h m as ts) (hb : zBl h r v B o) (hz : zbo r v B B' h h') : zFs h' m as ts := ⟨hf.1, fun i a t h1 h2 => by
  obtain ⟨g1, g2, g3⟩ := hf.2 i a t h1 h2
  exact ⟨g1, by have := hz.2.1; omega, zTre_bo g3 hb g2 hz⟩⟩
theorem zAS_bo {h' : zH} {r v : Nat} {B B' o : List Int32} {S : yS} {A : yA} (hf : zAS h m S A) (hb : zBl h r v B o) (hz : zbo r v B B' h h') : zAS h' m S A := ⟨hf.1, zFs_bo hf.2.1 hb hz, hf.2.2⟩
theorem zHs_bo {h' : zH} {r v : Nat} {B B' o : List Int32} {H : List yS} {HA : List yA} (hf : zHs h m H HA) (hb : zBl h r v B o) (hz : zbo r v B B' h h') : zHs h' m H HA := ⟨hf.1, fun j S A h1 h2 => zAS_bo (hf.2 j S A h1 h2) hb hz⟩
theorem zCls_bo {h' : zH} {v v' : Nat} {B B' o o' : List Int32} (hc : zCls h m w) (hb : zBl h (m + 1) v B o) (hv : v = m + 2 ∨ (m + 139 ≤ v ∧ v < h.2.1)) (hz : zbo (m + 1) v B B' h h') (hb' : zBl h' (m + 1) v' B' o') (hv' : v' = v ∨ h.2.1 ≤ v') : zCls h' m (yso w o') := by
  obtain ⟨c0, c1, ⟨S, s1, s2⟩, ⟨T, t1, t2⟩, ⟨H, k1, k2⟩, ⟨pos, ns, p1⟩, c7, _⟩ := hc
  have g : ∀ lo hi, m + 3 ≤ lo → hi ≤ m + 139 → zcg lo hi h h' := fun lo hi a b q q1 q2 => hz.1 q (by omega) (by omega) (by omega)
  have hsz := hz.2.1
  obtain ⟨⟨u, e1⟩, e2, ⟨x1, x2, x3⟩, e4, e5, e6, e7⟩ := hb'
  refine ⟨by omega, by rw [hz.1 m (by omega) (by omega) (by omega), c1]; rfl, ⟨S, zSta_cg s1 (g _ _ (by omega) (by omega)), zAS_bo s2 hb hz⟩, ⟨T, zSta_cg t1 (g _ _ (by omega) (by omega)), zAS_bo t2 hb hz⟩, ⟨H, zHis_cg k1 (g _ _ (by omega) (by omega)), zHs_bo k2 hb hz⟩, ⟨pos, ns, zPar_cg p1 (g _ _ (by omega) (by omega))⟩, zScr_cg c7 (g _ _ (by omega) (by omega)) (g _ _ (by omega) (by omega)), ⟨v', B', u, e1, e2, ?_, e4, e5, e6, e7⟩⟩
  omega
theorem zfy_bo {h' : zH} {v : Nat} {B B' : List Int32} (hc : m + 139 ≤ h.2.1) (hv : v = m + 2 ∨ (m + 139 ≤ v ∧ v < h.2.1)) (hB : B'.length ≤ 1000) (hz : zbo (m + 1) v B B' h h') : zfy m 1000 2000 h h' := ⟨fun q hq => hz.1 q (by omega) (by omega) (by omega), hz.2.1, by have := hz.2.2.1; omega, by have := hz.2.2.2.1; omega⟩
theorem zfy_tr {N K N' K' : Nat} {h1 h2 : zH} (a : zfy m N K h h1) (b : zfy m N' K' h1 h2) : zfy m (N + N') (K + K') h h2 := ⟨fun q hq => (b.1 q hq).trans (a.1 q hq), Nat.le_trans a.2.1 b.2.1, by have := a.2.2.1; have := b.2.2.1; omega, by have := a.2.2.2; have := b.2.2.2; omega⟩
/-- what a call that writes does -/
def zEnW (h : zH) (m : Nat) (r : zR) (n : Nat) (w : yW) : Prop := ∃ h' o, r = some (.inl (some (.int (nI n))), h') ∧ zCls h' m (yso w o) ∧ zfy m 1000 2000 h h'
theorem yso_so {w : yW} {o o' : List Int32} : yso (yso w o) o' = yso w o' := rfl
theorem d_58 {i : Nat} {t : yT} (hs : sv 0 = .int (nI 1)) (hD : zDg sv h) (hc : zCls h m w) (hi : (ycur w).1[i]? = some t) : ∃ n, zEnW h m (zcall zP sv (d + 48) 58 [.ref m, .int (nI i)] h) n w := by
  have q1 := zCls_0 hc
  have c0 := hc.1
  obtain ⟨a, e0, a1, a2, a3, a4⟩ := d_70k (sv := sv) (d := d + 45) hc hi
  obtain ⟨tw, t31, t8⟩ := a4
  obtain ⟨f1, f2, f3, f4⟩ := yform tw (by omega)
  obtain ⟨v, B, hb, hv⟩ := zCls_bl hc
  have kb := zBl_k hb
  have rb : ∀ X : zR, zrc (h.1 (m + 1)) 2 X = X := fun X => zBl_rc hb X
  obtain ⟨h1, e1, b1, z1⟩ := d_2 (sv := sv) (d := d + 42) hb
  have c1 := zCls_bo hc hb hv z1 b1 (Or.inl rfl)
  have q2 := zCls_0 c1
  have ht1 := zTre_bo a3 hb a2 z1
  have s1 : a + 9 ≤ h1.2.1 := by have := z1.2.1; omega
  have D1 := zDg_bo hD kb.1 kb.2 z1
  have e183 : zcall zP sv (d + 47) 183 [.ref a] h1 = _ := d_183 (d := d + 46) ht1
  rw [yroot_sub f4] at e183
  obtain ⟨nd, hnd⟩ := ynd_ex (ns := ypo 0 t) (i := ysz t - 1) (by omega)
  have W9 := d_89 (sv := sv) (t := a) (mt := ysz t) (r := m + 1) hs f1 (ydp t) t (nI (ysz t - 1)) (d + 46) (Nat.le_refl _) tw (Or.inr ⟨ysz t - 1, by omega, rfl⟩) f2 (by omega)
  obtain ⟨h2, v2, B2, p, e2, b2, w2, z2, _, hp⟩ := d_88 (D := d + 40) hs hnd f4 W9 (nI 1) 0 1 h1 v B [] ht1 s1 D1 b1 (by omega) (by show 0 + 13 * ysz t ≤ 430; omega)
  rw [List.nil_append] at b2
  have e13 : zcall zP sv (d + 47) 13 [.ref (m + 1)] h2 = _ := d_13 (d := d + 45) b2
  have hv1 : v = m + 2 ∨ (m + 139 ≤ v ∧ v < h1.2.1) := by have := z1.2.1; omega
  have c2 := zCls_bo c1 b1 hv1 z2 b2 w2
  have q3 := zCls_0 c2
  have zz := zbo_tr z1 (Or.inl rfl) z2
  have r2' : ∀ X : zR, zrc (h2.1 (m + 1)) 2 X = X := fun X => zBl_rc b2 X
  have trc : ∀ X : zR, zrc (h1.1 a) 6 X = X := fun X => zTre_rc ht1
  refine ⟨p.length, h2, p, ?_, c2, zfy_bo c0 hv b2.2.2.2.2.2.1 zz⟩
  simp (disch := exact znw_u) only [zc_58, zs_58_0, zs_58_1, zs_58_2, zs_58_5, zs_58_6, zs_58_7, zs_58_10, zs_58_11, zs_58_14, zs_58_15, zs_58_16, zs_58_19, zs_58_20, zs_58_21, zs_58_22, zs_58_25, zs_58_26, zs_58_29, zs_58_30, zs_58_33, zs_58_36, q1, q2, q3, zECc, zrc_1, zf_1_0, zp_1_0, zp_1_0n, zf_1_1, zp_1_1, zf_1_2, zp_1_2, zp_1_2n, zf_1_3, zp_1_3, zp_1_3n, zf_1_4, zp_1_40, zp_1_41, zf_1_5, zp_1_5, zp_1_5n, zf_1_6, zp_1_6, zp_1_6n, zf_1_7, zp_1_7, zp_1_7n, zf_1_8, zp_1_8, zp_1_8n, zf_1_9, zp_1_9, zp_1_9n, zf_1_10, zp_1_10, zp_1_10n, zf_1_11, zp_1_11, zp_1_11n, zf_1_12, zp_1_12, zp_1_12n, zEC1 hc, e0, rb, e1, trc, e183, e2, r2', e13, zbk_v, zts_s, zts_n, List.cons_append, List.nil_append]
theorem d_57 {i n M : Nat} {t : yT} {x : yI} (hs : sv 0 = .int (nI 1)) (hD : zDg sv h) (hc : zCls h m w) (hi : (ycur w).1[i]? = some t) (hR : (ycur w).2.2.1 = nI M) (h1M : 1 ≤ M) (hM : M ≤ 4) (hx : (yco M t 0 0)[n]? = some x) : zEnW h m (zcall zP sv (d + 48) 57 [.ref m, .int (nI i), .int (nI n)] h) (ywil x) w := by
  have q1 := zCls_0 hc
  have c0 := hc.1
  obtain ⟨a, h1, e0, e1, r3, r12, e2, s, f, tk⟩ := d_trq (sv := sv) (d := d) hc hi hR h1M hM
  have e3 : zcall zP sv (d + 47) 71 [.ref m, .int (nI n)] h1 = _ := d_71k (d := d + 45) s (List.getElem?_eq_some_iff.mp hx).1
  have r1 := zEC1 s.1
  obtain ⟨s1, ma, A, B, C, P, s2⟩ := s
  have q2 := zCls_0 s1
  have ok := yco_o8 hM h1M tk x (List.mem_of_getElem? hx)
  have c01 := s1.1
  obtain ⟨v, B0, hb, hv⟩ := zCls_bl s1
  have kb := zBl_k hb
  have rb : ∀ X : zR, zrc (h1.1 (m + 1)) 2 X = X := fun X => zBl_rc hb X
  have D1 : zDg sv h1 := by
    obtain ⟨a1, a2, O, T, d1, d2, d3, d4, d5, d6, d7, d8⟩ := hD
    have kz : ∀ q, m + 97 ≤ q → q < m + 119 → (h.1 q).1 ≠ 27 := zCod_kd hc.2.2.2.2.2.2.1.2.2.2.2.2
    have n1 : a1 < m + 97 ∨ m + 119 ≤ a1 := by
      by_cases z : m + 97 ≤ a1 ∧ a1 < m + 119
      · exact absurd (by rw [d3]) (kz a1 z.1 z.2)
      · omega
    have n2 : a2 < m + 97 ∨ m + 119 ≤ a2 := by
      by_cases z : m + 97 ≤ a2 ∧ a2 < m + 119
      · exact absurd (by rw [d4]) (kz a2 z.1 z.2)
      · omega
    exact ⟨a1, a2, O, T, d1, d2, by rw [f.1 _ n1, d3], by rw [f.1 _ n2, d4], d5, d6, by rw [f.2]; exact d7, by rw [f.2]; exact d8⟩
  obtain ⟨h2, e4, b1, z1⟩ := d_2 (sv := sv) (d := d + 42) hb
  have c2 := zCls_bo s1 hb hv z1 b1 (Or.inl rfl)
  have q3 := zCls_0 c2
  have D2 := zDg_bo D1 kb.1 kb.2 z1
  have hsz1 := z1.2.1
  have s3 := zCdC_cg (h' := h2) s2 (fun q qa qb => z1.1 q (by omega) (by omega) (by omega))
  obtain ⟨h3, v3, B3, p, e5, b3, w3, z3, hp1, hp2⟩ := d_114 (sv := sv) (d := d + 40) hs D2 b1 s3 hx ok (by show 0 + 40 ≤ 450; omega) (by omega) (by omega) (by omega)
  rw [List.nil_append] at b3
  have hv1 : v = m + 2 ∨ (m + 139 ≤ v ∧ v < h2.2.1) := by omega
  have c3 := zCls_bo c2 b1 hv1 z3 b3 w3
  have q4 := zCls_0 c3
  have e6 : zcall zP sv (d + 47) 13 [.ref (m + 1)] h3 = _ := d_13 (d := d + 45) b3
  have hpl : p.length = ywil x := by omega
  rw [hpl] at e6
  have zz := zbo_tr z1 (Or.inl rfl) z3
  have r12' : ∀ X : zR, zrc (h2.1 (m + 97)) 12 X = X := fun X => zCdC_rc s3
  have rb3 : ∀ X : zR, zrc (h3.1 (m + 1)) 2 X = X := fun X => zBl_rc b3 X
  refine ⟨h3, p, ?_, c3, zfy_mono (zfy_tr (zfy_fx c0 (zfr_fx f (by omega) (by omega))) (zfy_bo c01 hv b3.2.2.2.2.2.1 zz)) (by omega) (by omega)⟩
  simp (disch := exact znw_u) only [zc_57, zs_57_0, zs_57_1, zs_57_4, zs_57_5, zs_57_6, zs_57_9, zs_57_10, zs_57_13, zs_57_16, zs_57_19, zs_57_20, zs_57_21, zs_57_24, zs_57_25, zs_57_28, zs_57_29, zs_57_32, zs_57_33, zs_57_36, zs_57_37, zs_57_38, zs_57_41, zs_57_44, zs_57_45, zs_57_48, zs_57_51, q1, q2, q3, q4, zECc, zrc_1, zf_1_0, zp_1_0, zp_1_0n, zf_1_1, zp_1_1, zf_1_2, zp_1_2, zp_1_2n, zf_1_3, zp_1_3, zp_1_3n, zf_1_4, zp_1_40, zp_1_41, zf_1_5, zp_1_5, zp_1_5n, zf_1_6, zp_1_6, zp_1_6n, zf_1_7, zp_1_7, zp_1_7n, zf_1_8, zp_1_8, zp_1_8n, zf_1_9, zp_1_9, zp_1_9n, zf_1_10, zp_1_10, zp_1_10n, zf_1_11, zp_1_11, zp_1_11n, zf_1_12, zp_1_12, zp_1_12n, zEC1 hc, r1, e0, r3, e1, r12, r12', e2, e3, rb, e4, e5, rb3, e6, zbk_v, zts_s, zts_n, List.cons_append, List.nil_append]
theorem nI_255 (x : Int32) : ∃ j, j < 256 ∧ x &&& nI 255 = nI j := by
  refine ⟨(x &&& nI 255).toBitVec.toNat, ?_, ?_⟩
  · rw [Int32.toBitVec_and, BitVec.toNat_and]
    exact Nat.and_lt_two_pow (n := 8) _ (by decide)
  · apply Int32.toBitVec_inj.mp
    show _ = BitVec.ofNat 32 _
    rw [BitVec.ofNat_toNat, BitVec.setWidth_eq]
theorem ych255 : ∀ j, j < 256 → zty 7 (.int ((nI j).toUInt32 % 65536).toInt32) = true := by decide +kernel
theorem d_21 {r v n : Nat} {B o : List Int32} (h3' : zty 4 (sv 3) = true) (hb : zBl h r v B o) (hn : n < o.length) : ∃ c : Int32, zty 7 (.int c) = true ∧ zcall zP sv (d + 3) 21 [.ref r, .int (nI n)] h = some (.inl (some (.int c)), h) := by
  obtain ⟨⟨u, e⟩, ev, _, h3, h4, hL, hty⟩ := hb
  have hl : (B.map Value.int).length = B.length := List.length_map ..
  have em : (if nI B.length < nI o.length then nI B.length else nI o.length) = nI o.length := if_neg (nI_nlt (by omega) (by omega))
  have c0 : ¬ nI n < 0 := nI_pos (by omega)
  have c1 : nI n < nI o.length := nI_lt hn (by omega)
  have e19 : zcall zP sv (d + 1) 19 [.int (nI n), .int (nI o.length), sv 3] h = some (.inl (some (.int (nI n))), h) := by
    have zc : zcall zP sv (d + 1) 19 [.int (nI n), .int (nI o.length), sv 3] h = zrun zP sv (zcall zP sv d) 19 0 [.val (.int (nI n)), .val (.int (nI o.length)), .val (sv 3)] [] h := by
      cases hz : sv 3 with
      | null => exact zcall_s (n := 3) rfl rfl (Nat.le_of_ble_eq_true rfl)
      | ref a => exact zcall_s (n := 3) rfl rfl (Nat.le_of_ble_eq_true rfl)
      | int x => rw [hz] at h3'; cases h3'
      | long x => rw [hz] at h3'; cases h3'
      | float x => rw [hz] at h3'; cases h3'
      | double x => rw [hz] at h3'; cases h3'
      | retAddr x => rw [hz] at h3'; cases h3'
    rw [zc]
    simp (disch := first | exact znw_u | exact znw_i) only [zs_19_0, zs_19_1, zs_19_4, zs_19_5, zs_19_6, zs_19_16, zs_19_17, if_neg c0, if_pos c1]
  have e18 : zcall zP sv (d + 2) 18 [.int (nI n), .int (nI o.length)] h = some (.inl none, h) := by
    simp (disch := first | exact znw_u | exact znw_i) only [zc_18, zs_18_0, zs_18_1, zs_18_2, zs_18_5, zs_18_8, zs_18_9, e19, zbk_v, zts_s, List.cons_append, List.nil_append]
  have g : ∀ K, zael (24, B.map Value.int) 24 (nI n) K = K (.int (B[n]'(by omega))) := fun K => zael_r (by omega) (by omega)
  obtain ⟨j, hj, ej⟩ := nI_255 (B[n]'(by omega))
  refine ⟨_, ych255 j hj, ?_⟩
  have z7 := ych255 j hj
  simp (disch := first | exact znw_u | exact znw_i | exact znw_r) only [zc_21, zs_21_0, zs_21_0n, zs_21_1, zs_21_4, zs_21_5, zs_21_5n, zs_21_6, zs_21_9, zs_21_9n, zs_21_10, zs_21_10n, zs_21_11, zs_21_14, zs_21_14n, zs_21_15, zs_21_16, zs_21_17, zs_21_18, zs_21_21, zs_21_23, zs_21_24, zs_21_26, zs_21_29, zs_21_30, zs_21_33, zs_21_33n, zs_21_34, zs_21_35, zs_21_36, zs_21_39, zs_21_40, zs_21_41, zs_21_42, zs_21_42n, zs_21_43, e, zrc_2, zf_2_0, zp_2_0, zp_2_0n, zf_2_1, zp_2_10, zp_2_11, zf_2_2, zp_2_20, zp_2_21, zf_2_3, zp_2_3, ev, zaln_k (show 20 ≤ 24 by omega), hl, zsh_r, em, e18, g, ej, z7, zgd_t, zbk_v, zts_n, ↓reduceIte, List.cons_append, List.nil_append]
theorem d_59n {x : Int32} (hc : zCls h m w) (hx : x < 0 ∨ ¬ x < nI (yout w).length) : zEnd h m (zcall zP sv (d + 48) 59 [.ref m, .int x] h) 1 6 (.inr 2) w := by
  obtain ⟨t1, t2⟩ := zthrow hc
  have q1 := zCls_0 hc
  obtain ⟨v, B, hb, hv⟩ := zCls_bl hc
  have rb : ∀ X : zR, zrc (h.1 (m + 1)) 2 X = X := fun X => zBl_rc hb X
  have e13 : zcall zP sv (d + 47) 13 [.ref (m + 1)] h = _ := d_13 (d := d + 45) hb
  refine ⟨_, ?_, t1, t2⟩
  by_cases c : x < 0
  · simp (disch := exact znw_u) only [zc_59, zs_59_0, zs_59_1, zs_59_4, zs_59_5, zs_59_6, zs_59_9, zs_59_12, zs_59_15, zs_59_26, zs_59_27, zs_59_30, zs_59_31, zs_59_34, if_pos c, zext_of]
  · have c1 := hx.resolve_left c
    simp (disch := exact znw_u) only [zc_59, zs_59_0, zs_59_1, zs_59_4, zs_59_5, zs_59_6, zs_59_9, zs_59_12, zs_59_15, zs_59_26, zs_59_27, zs_59_30, zs_59_31, zs_59_34, if_neg c, if_neg c1, q1, zECc, zrc_1, zf_1_0, zp_1_0, zp_1_0n, zf_1_1, zp_1_1, zf_1_2, zp_1_2, zp_1_2n, zf_1_3, zp_1_3, zp_1_3n, zf_1_4, zp_1_40, zp_1_41, zf_1_5, zp_1_5, zp_1_5n, zf_1_6, zp_1_6, zp_1_6n, zf_1_7, zp_1_7, zp_1_7n, zf_1_8, zp_1_8, zp_1_8n, zf_1_9, zp_1_9, zp_1_9n, zf_1_10, zp_1_10, zp_1_10n, zf_1_11, zp_1_11, zp_1_11n, zf_1_12, zp_1_12, zp_1_12n, rb, e13, zbk_v, zts_s, zext_of, List.cons_append, List.nil_append]
theorem d_59 {n : Nat} (h3 : zty 4 (sv 3) = true) (hc : zCls h m w) (hn : n < (yout w).length) : ∃ c : Int32, zEnd h m (zcall zP sv (d + 48) 59 [.ref m, .int (nI n)] h) 0 0 (.inl (some (.int c))) w := by
  have q1 := zCls_0 hc
  obtain ⟨v, B, hb, hv⟩ := zCls_bl hc
  have rb : ∀ X : zR, zrc (h.1 (m + 1)) 2 X = X := fun X => zBl_rc hb X
  have e13 : zcall zP sv (d + 47) 13 [.ref (m + 1)] h = _ := d_13 (d := d + 45) hb
  obtain ⟨c, z7, e21⟩ := d_21 (sv := sv) (d := d + 43) h3 hb hn
  have hle : (yout w).length ≤ 1000 := by
    have := hb.2.2.2.1
    have := hb.2.2.2.2.2.1
    omega
  have e20 : zcall zP sv (d + 47) 20 [.ref (m + 1), .int (nI n)] h = some (.inl (some (.int c)), h) := by
    simp (disch := exact znw_u) only [zc_20, zs_20_0, zs_20_0n, zs_20_1, zs_20_2, zs_20_5, rb, e21, z7, zgd_t, zbk_v, zts_s, List.cons_append, List.nil_append]
  have c0 : ¬ nI n < 0 := nI_pos (by omega)
  have c1 : nI n < nI (yout w).length := nI_lt hn (by omega)
  refine ⟨c, zEnd_s hc ?_⟩
  simp (disch := exact znw_u) only [zc_59, zs_59_0, zs_59_1, zs_59_4, zs_59_5, zs_59_6, zs_59_9, zs_59_12, zs_59_15, zs_59_26, zs_59_27, zs_59_30, zs_59_31, zs_59_34, if_neg c0, if_pos c1, q1, zECc, zrc_1, zf_1_0, zp_1_0, zp_1_0n, zf_1_1, zp_1_1, zf_1_2, zp_1_2, zp_1_2n, zf_1_3, zp_1_3, zp_1_3n, zf_1_4, zp_1_40, zp_1_41, zf_1_5, zp_1_5, zp_1_5n, zf_1_6, zp_1_6, zp_1_6n, zf_1_7, zp_1_7, zp_1_7n, zf_1_8, zp_1_8, zp_1_8n, zf_1_9, zp_1_9, zp_1_9n, zf_1_10, zp_1_10, zp_1_10n, zf_1_11, zp_1_11, zp_1_11n, zf_1_12, zp_1_12, zp_1_12n, rb, e13, e20, z7, zgd_t, zbk_v, zts_s, List.cons_append, List.nil_append]
end ZSF

section ZSG
variable {sv : Nat → Value} {D : Nat} {h h1 : zH} {m o : Nat}
theorem zlg {l y : Int64} {K : zC → zR} : zaset (22, [.long l]) 22 0 (.long y) K = K (22, [.long y]) := rfl
theorem zdb {l y : UInt64} {K : zC → zR} : zaset (23, [.double l]) 23 0 (.double y) K = K (23, [.double y]) := rfl
theorem p_300v {x1 : Int32} {y : Int32} {l : Int64} (r : ∀ X : zR, zrc (h.1 m) 1 X = X) (e : zcall zP sv D 24 [.ref m, .int x1] h = some (.inl (some (.int y)), h1)) (ho : h1.1 o = (22, [.long l])) : zcall zP sv (D + 1) 300 [.ref m, .int x1, .ref o] h = some (.inl (some (.int 0)), zup h1 o (22, [.long y.toInt64])) := by
  simp (disch := first | exact znw_u | exact znw_i) only [zc_300, zs_300_0, zs_300_0n, zs_300_1, zs_300_2, zs_300_2n, zs_300_3, zs_300_4, zs_300_7, zs_300_8, zs_300_9, zs_300_12, zs_300_12n, zs_300_13, zs_300_14, zs_300_15, zs_300_16, r, e, ho, zlg, zbk_v, zts_s, List.cons_append, List.nil_append]
theorem p_300e_0 {x1 : Int32} (r : ∀ X : zR, zrc (h.1 m) 1 X = X) (e : zcall zP sv D 24 [.ref m, .int x1] h = some (.inr 0, h1)) : zcall zP sv (D + 1) 300 [.ref m, .int x1, .ref o] h = some (.inl (some (.int (nI 1))), h1) := by
  simp (disch := first | exact znw_u | exact znw_i) only [zc_300, zs_300_0, zs_300_0n, zs_300_1, zs_300_2, zs_300_2n, zs_300_3, zs_300_4, zs_300_7, zs_300_8, zs_300_9, zs_300_12, zs_300_12n, zs_300_13, zs_300_14, zs_300_15, zs_300_16, r, e, zbk_x, List.cons_append, List.nil_append]
  rfl
theorem p_301v {y : Int32} {l : Int64} (r : ∀ X : zR, zrc (h.1 m) 1 X = X) (e : zcall zP sv D 26 [.ref m] h = some (.inl (some (.int y)), h1)) (ho : h1.1 o = (22, [.long l])) : zcall zP sv (D + 1) 301 [.ref m, .ref o] h = some (.inl (some (.int 0)), zup h1 o (22, [.long y.toInt64])) := by
  simp (disch := first | exact znw_u | exact znw_i) only [zc_301, zs_301_0, zs_301_0n, zs_301_1, zs_301_2, zs_301_2n, zs_301_3, zs_301_6, zs_301_7, zs_301_8, zs_301_11, zs_301_11n, zs_301_12, zs_301_13, zs_301_14, zs_301_14n, zs_301_15, zs_301_16, zs_301_17, zs_301_17n, zs_301_18, zs_301_19, zs_301_20, zs_301_21, r, e, ho, zlg, zbk_v, zts_s, List.cons_append, List.nil_append]
theorem p_301e_1 (r : ∀ X : zR, zrc (h.1 m) 1 X = X) (e : zcall zP sv D 26 [.ref m] h = some (.inr 1, h1)) : zcall zP sv (D + 1) 301 [.ref m, .ref o] h = some (.inl (some (.int (nI 1))), h1) := by
  simp (disch := first | exact znw_u | exact znw_i) only [zc_301, zs_301_0, zs_301_0n, zs_301_1, zs_301_2, zs_301_2n, zs_301_3, zs_301_6, zs_301_7, zs_301_8, zs_301_11, zs_301_11n, zs_301_12, zs_301_13, zs_301_14, zs_301_14n, zs_301_15, zs_301_16, zs_301_17, zs_301_17n, zs_301_18, zs_301_19, zs_301_20, zs_301_21, r, e, zbk_x, List.cons_append, List.nil_append]
  rfl
theorem p_301e_0 (r : ∀ X : zR, zrc (h.1 m) 1 X = X) (e : zcall zP sv D 26 [.ref m] h = some (.inr 0, h1)) : zcall zP sv (D + 1) 301 [.ref m, .ref o] h = some (.inl (some (.int (nI 2))), h1) := by
  simp (disch := first | exact znw_u | exact znw_i) only [zc_301, zs_301_0, zs_301_0n, zs_301_1, zs_301_2, zs_301_2n, zs_301_3, zs_301_6, zs_301_7, zs_301_8, zs_301_11, zs_301_11n, zs_301_12, zs_301_13, zs_301_14, zs_301_14n, zs_301_15, zs_301_16, zs_301_17, zs_301_17n, zs_301_18, zs_301_19, zs_301_20, zs_301_21, r, e, zbk_x, List.cons_append, List.nil_append]
  rfl
theorem p_301e_3 (r : ∀ X : zR, zrc (h.1 m) 1 X = X) (e : zcall zP sv D 26 [.ref m] h = some (.inr 3, h1)) : zcall zP sv (D + 1) 301 [.ref m, .ref o] h = some (.inl (some (.int (nI 3))), h1) := by
  simp (disch := first | exact znw_u | exact znw_i) only [zc_301, zs_301_0, zs_301_0n, zs_301_1, zs_301_2, zs_301_2n, zs_301_3, zs_301_6, zs_301_7, zs_301_8, zs_301_11, zs_301_11n, zs_301_12, zs_301_13, zs_301_14, zs_301_14n, zs_301_15, zs_301_16, zs_301_17, zs_301_17n, zs_301_18, zs_301_19, zs_301_20, zs_301_21, r, e, zbk_x, List.cons_append, List.nil_append]
  rfl
theorem p_302v {x1 : Int32} {y : Int32} {l : Int64} (r : ∀ X : zR, zrc (h.1 m) 1 X = X) (e : zcall zP sv D 27 [.ref m, .int x1] h = some (.inl (some (.int y)), h1)) (ho : h1.1 o = (22, [.long l])) : zcall zP sv (D + 1) 302 [.ref m, .int x1, .ref o] h = some (.inl (some (.int 0)), zup h1 o (22, [.long y.toInt64])) := by
  simp (disch := first | exact znw_u | exact znw_i) only [zc_302, zs_302_0, zs_302_0n, zs_302_1, zs_302_2, zs_302_2n, zs_302_3, zs_302_4, zs_302_7, zs_302_8, zs_302_9, zs_302_12, zs_302_12n, zs_302_13, zs_302_14, zs_302_15, zs_302_16, r, e, ho, zlg, zbk_v, zts_s, List.cons_append, List.nil_append]
theorem p_302e_2 {x1 : Int32} (r : ∀ X : zR, zrc (h.1 m) 1 X = X) (e : zcall zP sv D 27 [.ref m, .int x1] h = some (.inr 2, h1)) : zcall zP sv (D + 1) 302 [.ref m, .int x1, .ref o] h = some (.inl (some (.int (nI 1))), h1) := by
  simp (disch := first | exact znw_u | exact znw_i) only [zc_302, zs_302_0, zs_302_0n, zs_302_1, zs_302_2, zs_302_2n, zs_302_3, zs_302_4, zs_302_7, zs_302_8, zs_302_9, zs_302_12, zs_302_12n, zs_302_13, zs_302_14, zs_302_15, zs_302_16, r, e, zbk_x, List.cons_append, List.nil_append]
  rfl
theorem p_303v {x1 : Int32} {y : Int32} {l : Int64} (r : ∀ X : zR, zrc (h.1 m) 1 X = X) (e : zcall zP sv D 28 [.ref m, .int x1] h = some (.inl (some (.int y)), h1)) (ho : h1.1 o = (22, [.long l])) : zcall zP sv (D + 1) 303 [.ref m, .int x1, .ref o] h = some (.inl (some (.int 0)), zup h1 o (22, [.long y.toInt64])) := by
  simp (disch := first | exact znw_u | exact znw_i) only [zc_303, zs_303_0, zs_303_0n, zs_303_1, zs_303_2, zs_303_2n, zs_303_3, zs_303_4, zs_303_7, zs_303_8, zs_303_9, zs_303_12, zs_303_12n, zs_303_13, zs_303_14, zs_303_15, zs_303_16, r, e, ho, zlg, zbk_v, zts_s, List.cons_append, List.nil_append]
theorem p_303e_2 {x1 : Int32} (r : ∀ X : zR, zrc (h.1 m) 1 X = X) (e : zcall zP sv D 28 [.ref m, .int x1] h = some (.inr 2, h1)) : zcall zP sv (D + 1) 303 [.ref m, .int x1, .ref o] h = some (.inl (some (.int (nI 1))), h1) := by
  simp (disch := first | exact znw_u | exact znw_i) only [zc_303, zs_303_0, zs_303_0n, zs_303_1, zs_303_2, zs_303_2n, zs_303_3, zs_303_4, zs_303_7, zs_303_8, zs_303_9, zs_303_12, zs_303_12n, zs_303_13, zs_303_14, zs_303_15, zs_303_16, r, e, zbk_x, List.cons_append, List.nil_append]
  rfl
theorem p_304v {x1 : Int32} {x2 : Int32} {y : Int32} {l : Int64} (r : ∀ X : zR, zrc (h.1 m) 1 X = X) (e : zcall zP sv D 29 [.ref m, .int x1, .int x2] h = some (.inl (some (.int y)), h1)) (ho : h1.1 o = (22, [.long l])) : zcall zP sv (D + 1) 304 [.ref m, .int x1, .int x2, .ref o] h = some (.inl (some (.int 0)), zup h1 o (22, [.long y.toInt64])) := by
  simp (disch := first | exact znw_u | exact znw_i) only [zc_304, zs_304_0, zs_304_0n, zs_304_1, zs_304_2, zs_304_2n, zs_304_3, zs_304_4, zs_304_5, zs_304_8, zs_304_9, zs_304_10, zs_304_13, zs_304_13n, zs_304_15, zs_304_16, zs_304_17, zs_304_17n, zs_304_19, zs_304_20, zs_304_21, zs_304_21n, zs_304_23, zs_304_24, zs_304_25, zs_304_25n, zs_304_27, zs_304_28, zs_304_29, zs_304_30, r, e, ho, zlg, zbk_v, zts_s, List.cons_append, List.nil_append]
theorem p_304e_2 {x1 : Int32} {x2 : Int32} (r : ∀ X : zR, zrc (h.1 m) 1 X = X) (e : zcall zP sv D 29 [.ref m, .int x1, .int x2] h = some (.inr 2, h1)) : zcall zP sv (D + 1) 304 [.ref m, .int x1, .int x2, .ref o] h = some (.inl (some (.int (nI 1))), h1) := by
  simp (disch := first | exact znw_u | exact znw_i) only [zc_304, zs_304_0, zs_304_0n, zs_304_1, zs_304_2, zs_304_2n, zs_304_3, zs_304_4, zs_304_5, zs_304_8, zs_304_9, zs_304_10, zs_304_13, zs_304_13n, zs_304_15, zs_304_16, zs_304_17, zs_304_17n, zs_304_19, zs_304_20, zs_304_21, zs_304_21n, zs_304_23, zs_304_24, zs_304_25, zs_304_25n, zs_304_27, zs_304_28, zs_304_29, zs_304_30, r, e, zbk_x, List.cons_append, List.nil_append]
  rfl
theorem p_304e_1 {x1 : Int32} {x2 : Int32} (r : ∀ X : zR, zrc (h.1 m) 1 X = X) (e : zcall zP sv D 29 [.ref m, .int x1, .int x2] h = some (.inr 1, h1)) : zcall zP sv (D + 1) 304 [.ref m, .int x1, .int x2, .ref o] h = some (.inl (some (.int (nI 2))), h1) := by
  simp (disch := first | exact znw_u | exact znw_i) only [zc_304, zs_304_0, zs_304_0n, zs_304_1, zs_304_2, zs_304_2n, zs_304_3, zs_304_4, zs_304_5, zs_304_8, zs_304_9, zs_304_10, zs_304_13, zs_304_13n, zs_304_15, zs_304_16, zs_304_17, zs_304_17n, zs_304_19, zs_304_20, zs_304_21, zs_304_21n, zs_304_23, zs_304_24, zs_304_25, zs_304_25n, zs_304_27, zs_304_28, zs_304_29, zs_304_30, r, e, zbk_x, List.cons_append, List.nil_append]
  rfl
theorem p_304e_0 {x1 : Int32} {x2 : Int32} (r : ∀ X : zR, zrc (h.1 m) 1 X = X) (e : zcall zP sv D 29 [.ref m, .int x1, .int x2] h = some (.inr 0, h1)) : zcall zP sv (D + 1) 304 [.ref m, .int x1, .int x2, .ref o] h = some (.inl (some (.int (nI 3))), h1) := by
  simp (disch := first | exact znw_u | exact znw_i) only [zc_304, zs_304_0, zs_304_0n, zs_304_1, zs_304_2, zs_304_2n, zs_304_3, zs_304_4, zs_304_5, zs_304_8, zs_304_9, zs_304_10, zs_304_13, zs_304_13n, zs_304_15, zs_304_16, zs_304_17, zs_304_17n, zs_304_19, zs_304_20, zs_304_21, zs_304_21n, zs_304_23, zs_304_24, zs_304_25, zs_304_25n, zs_304_27, zs_304_28, zs_304_29, zs_304_30, r, e, zbk_x, List.cons_append, List.nil_append]
  rfl
theorem p_304e_3 {x1 : Int32} {x2 : Int32} (r : ∀ X : zR, zrc (h.1 m) 1 X = X) (e : zcall zP sv D 29 [.ref m, .int x1, .int x2] h = some (.inr 3, h1)) : zcall zP sv (D + 1) 304 [.ref m, .int x1, .int x2, .ref o] h = some (.inl (some (.int (nI 4))), h1) := by
  simp (disch := first | exact znw_u | exact znw_i) only [zc_304, zs_304_0, zs_304_0n, zs_304_1, zs_304_2, zs_304_2n, zs_304_3, zs_304_4, zs_304_5, zs_304_8, zs_304_9, zs_304_10, zs_304_13, zs_304_13n, zs_304_15, zs_304_16, zs_304_17, zs_304_17n, zs_304_19, zs_304_20, zs_304_21, zs_304_21n, zs_304_23, zs_304_24, zs_304_25, zs_304_25n, zs_304_27, zs_304_28, zs_304_29, zs_304_30, r, e, zbk_x, List.cons_append, List.nil_append]
  rfl
theorem p_305v {x1 : Int32} {x2 : Int32} {x3 : Int32} {y : Int32} {l : Int64} (r : ∀ X : zR, zrc (h.1 m) 1 X = X) (e : zcall zP sv D 30 [.ref m, .int x1, .int x2, .int x3] h = some (.inl (some (.int y)), h1)) (ho : h1.1 o = (22, [.long l])) : zcall zP sv (D + 1) 305 [.ref m, .int x1, .int x2, .int x3, .ref o] h = some (.inl (some (.int 0)), zup h1 o (22, [.long y.toInt64])) := by
  simp (disch := first | exact znw_u | exact znw_i) only [zc_305, zs_305_0, zs_305_0n, zs_305_2, zs_305_3, zs_305_3n, zs_305_4, zs_305_5, zs_305_6, zs_305_7, zs_305_10, zs_305_11, zs_305_12, zs_305_15, zs_305_15n, zs_305_17, zs_305_18, zs_305_19, zs_305_19n, zs_305_21, zs_305_22, zs_305_23, zs_305_23n, zs_305_25, zs_305_26, zs_305_27, zs_305_28, r, e, ho, zlg, zbk_v, zts_s, List.cons_append, List.nil_append]
theorem p_305e_2 {x1 : Int32} {x2 : Int32} {x3 : Int32} (r : ∀ X : zR, zrc (h.1 m) 1 X = X) (e : zcall zP sv D 30 [.ref m, .int x1, .int x2, .int x3] h = some (.inr 2, h1)) : zcall zP sv (D + 1) 305 [.ref m, .int x1, .int x2, .int x3, .ref o] h = some (.inl (some (.int (nI 1))), h1) := by
  simp (disch := first | exact znw_u | exact znw_i) only [zc_305, zs_305_0, zs_305_0n, zs_305_2, zs_305_3, zs_305_3n, zs_305_4, zs_305_5, zs_305_6, zs_305_7, zs_305_10, zs_305_11, zs_305_12, zs_305_15, zs_305_15n, zs_305_17, zs_305_18, zs_305_19, zs_305_19n, zs_305_21, zs_305_22, zs_305_23, zs_305_23n, zs_305_25, zs_305_26, zs_305_27, zs_305_28, r, e, zbk_x, List.cons_append, List.nil_append]
  rfl
theorem p_305e_1 {x1 : Int32} {x2 : Int32} {x3 : Int32} (r : ∀ X : zR, zrc (h.1 m) 1 X = X) (e : zcall zP sv D 30 [.ref m, .int x1, .int x2, .int x3] h = some (.inr 1, h1)) : zcall zP sv (D + 1) 305 [.ref m, .int x1, .int x2, .int x3, .ref o] h = some (.inl (some (.int (nI 2))), h1) := by
  simp (disch := first | exact znw_u | exact znw_i) only [zc_305, zs_305_0, zs_305_0n, zs_305_2, zs_305_3, zs_305_3n, zs_305_4, zs_305_5, zs_305_6, zs_305_7, zs_305_10, zs_305_11, zs_305_12, zs_305_15, zs_305_15n, zs_305_17, zs_305_18, zs_305_19, zs_305_19n, zs_305_21, zs_305_22, zs_305_23, zs_305_23n, zs_305_25, zs_305_26, zs_305_27, zs_305_28, r, e, zbk_x, List.cons_append, List.nil_append]
  rfl
theorem p_305e_3 {x1 : Int32} {x2 : Int32} {x3 : Int32} (r : ∀ X : zR, zrc (h.1 m) 1 X = X) (e : zcall zP sv D 30 [.ref m, .int x1, .int x2, .int x3] h = some (.inr 3, h1)) : zcall zP sv (D + 1) 305 [.ref m, .int x1, .int x2, .int x3, .ref o] h = some (.inl (some (.int (nI 3))), h1) := by
  simp (disch := first | exact znw_u | exact znw_i) only [zc_305, zs_305_0, zs_305_0n, zs_305_2, zs_305_3, zs_305_3n, zs_305_4, zs_305_5, zs_305_6, zs_305_7, zs_305_10, zs_305_11, zs_305_12, zs_305_15, zs_305_15n, zs_305_17, zs_305_18, zs_305_19, zs_305_19n, zs_305_21, zs_305_22, zs_305_23, zs_305_23n, zs_305_25, zs_305_26, zs_305_27, zs_305_28, r, e, zbk_x, List.cons_append, List.nil_append]
  rfl
theorem p_306v {x1 : Int32} {x2 : Int32} {y : Int32} {l : Int64} (r : ∀ X : zR, zrc (h.1 m) 1 X = X) (e : zcall zP sv D 31 [.ref m, .int x1, .int x2] h = some (.inl (some (.int y)), h1)) (ho : h1.1 o = (22, [.long l])) : zcall zP sv (D + 1) 306 [.ref m, .int x1, .int x2, .ref o] h = some (.inl (some (.int 0)), zup h1 o (22, [.long y.toInt64])) := by
  simp (disch := first | exact znw_u | exact znw_i) only [zc_306, zs_306_0, zs_306_0n, zs_306_1, zs_306_2, zs_306_2n, zs_306_3, zs_306_4, zs_306_5, zs_306_8, zs_306_9, zs_306_10, zs_306_13, zs_306_13n, zs_306_15, zs_306_16, zs_306_17, zs_306_18, r, e, ho, zlg, zbk_v, zts_s, List.cons_append, List.nil_append]
theorem p_306e_1 {x1 : Int32} {x2 : Int32} (r : ∀ X : zR, zrc (h.1 m) 1 X = X) (e : zcall zP sv D 31 [.ref m, .int x1, .int x2] h = some (.inr 1, h1)) : zcall zP sv (D + 1) 306 [.ref m, .int x1, .int x2, .ref o] h = some (.inl (some (.int (nI 1))), h1) := by
  simp (disch := first | exact znw_u | exact znw_i) only [zc_306, zs_306_0, zs_306_0n, zs_306_1, zs_306_2, zs_306_2n, zs_306_3, zs_306_4, zs_306_5, zs_306_8, zs_306_9, zs_306_10, zs_306_13, zs_306_13n, zs_306_15, zs_306_16, zs_306_17, zs_306_18, r, e, zbk_x, List.cons_append, List.nil_append]
  rfl
theorem p_307v {x1 : Int32} {y : Int32} {l : Int64} (r : ∀ X : zR, zrc (h.1 m) 1 X = X) (e : zcall zP sv D 32 [.ref m, .int x1] h = some (.inl (some (.int y)), h1)) (ho : h1.1 o = (22, [.long l])) : zcall zP sv (D + 1) 307 [.ref m, .int x1, .ref o] h = some (.inl (some (.int 0)), zup h1 o (22, [.long y.toInt64])) := by
  simp (disch := first | exact znw_u | exact znw_i) only [zc_307, zs_307_0, zs_307_0n, zs_307_1, zs_307_2, zs_307_2n, zs_307_3, zs_307_4, zs_307_7, zs_307_8, zs_307_9, zs_307_12, zs_307_12n, zs_307_13, zs_307_14, zs_307_15, zs_307_16, r, e, ho, zlg, zbk_v, zts_s, List.cons_append, List.nil_append]
theorem p_307e_1 {x1 : Int32} (r : ∀ X : zR, zrc (h.1 m) 1 X = X) (e : zcall zP sv D 32 [.ref m, .int x1] h = some (.inr 1, h1)) : zcall zP sv (D + 1) 307 [.ref m, .int x1, .ref o] h = some (.inl (some (.int (nI 1))), h1) := by
  simp (disch := first | exact znw_u | exact znw_i) only [zc_307, zs_307_0, zs_307_0n, zs_307_1, zs_307_2, zs_307_2n, zs_307_3, zs_307_4, zs_307_7, zs_307_8, zs_307_9, zs_307_12, zs_307_12n, zs_307_13, zs_307_14, zs_307_15, zs_307_16, r, e, zbk_x, List.cons_append, List.nil_append]
  rfl
theorem p_308v {x1 : Int32} {y : Int32} {l : Int64} (r : ∀ X : zR, zrc (h.1 m) 1 X = X) (e : zcall zP sv D 34 [.ref m, .int x1] h = some (.inl (some (.int y)), h1)) (ho : h1.1 o = (22, [.long l])) : zcall zP sv (D + 1) 308 [.ref m, .int x1, .ref o] h = some (.inl (some (.int 0)), zup h1 o (22, [.long y.toInt64])) := by
  simp (disch := first | exact znw_u | exact znw_i) only [zc_308, zs_308_0, zs_308_0n, zs_308_1, zs_308_2, zs_308_2n, zs_308_3, zs_308_4, zs_308_7, zs_308_8, zs_308_9, zs_308_12, zs_308_12n, zs_308_13, zs_308_14, zs_308_15, zs_308_16, r, e, ho, zlg, zbk_v, zts_s, List.cons_append, List.nil_append]
theorem p_308e_1 {x1 : Int32} (r : ∀ X : zR, zrc (h.1 m) 1 X = X) (e : zcall zP sv D 34 [.ref m, .int x1] h = some (.inr 1, h1)) : zcall zP sv (D + 1) 308 [.ref m, .int x1, .ref o] h = some (.inl (some (.int (nI 1))), h1) := by
  simp (disch := first | exact znw_u | exact znw_i) only [zc_308, zs_308_0, zs_308_0n, zs_308_1, zs_308_2, zs_308_2n, zs_308_3, zs_308_4, zs_308_7, zs_308_8, zs_308_9, zs_308_12, zs_308_12n, zs_308_13, zs_308_14, zs_308_15, zs_308_16, r, e, zbk_x, List.cons_append, List.nil_append]
  rfl
theorem p_309v {x1 : Int32} {y : Int32} {l : Int64} (r : ∀ X : zR, zrc (h.1 m) 1 X = X) (e : zcall zP sv D 36 [.ref m, .int x1] h = some (.inl (some (.int y)), h1)) (ho : h1.1 o = (22, [.long l])) : zcall zP sv (D + 1) 309 [.ref m, .int x1, .ref o] h = some (.inl (some (.int 0)), zup h1 o (22, [.long y.toInt64])) := by
  simp (disch := first | exact znw_u | exact znw_i) only [zc_309, zs_309_0, zs_309_0n, zs_309_1, zs_309_2, zs_309_2n, zs_309_3, zs_309_4, zs_309_7, zs_309_8, zs_309_9, zs_309_12, zs_309_12n, zs_309_13, zs_309_14, zs_309_15, zs_309_16, r, e, ho, zlg, zbk_v, zts_s, List.cons_append, List.nil_append]
theorem p_309e_2 {x1 : Int32} (r : ∀ X : zR, zrc (h.1 m) 1 X = X) (e : zcall zP sv D 36 [.ref m, .int x1] h = some (.inr 2, h1)) : zcall zP sv (D + 1) 309 [.ref m, .int x1, .ref o] h = some (.inl (some (.int (nI 1))), h1) := by
  simp (disch := first | exact znw_u | exact znw_i) only [zc_309, zs_309_0, zs_309_0n, zs_309_1, zs_309_2, zs_309_2n, zs_309_3, zs_309_4, zs_309_7, zs_309_8, zs_309_9, zs_309_12, zs_309_12n, zs_309_13, zs_309_14, zs_309_15, zs_309_16, r, e, zbk_x, List.cons_append, List.nil_append]
  rfl
theorem p_310v {x1 : Int32} {y : Int32} {l : Int64} (r : ∀ X : zR, zrc (h.1 m) 1 X = X) (e : zcall zP sv D 37 [.ref m, .int x1] h = some (.inl (some (.int y)), h1)) (ho : h1.1 o = (22, [.long l])) : zcall zP sv (D + 1) 310 [.ref m, .int x1, .ref o] h = some (.inl (some (.int 0)), zup h1 o (22, [.long y.toInt64])) := by
  simp (disch := first | exact znw_u | exact znw_i) only [zc_310, zs_310_0, zs_310_0n, zs_310_1, zs_310_2, zs_310_2n, zs_310_3, zs_310_4, zs_310_7, zs_310_8, zs_310_9, zs_310_12, zs_310_12n, zs_310_13, zs_310_14, zs_310_15, zs_310_16, r, e, ho, zlg, zbk_v, zts_s, List.cons_append, List.nil_append]
theorem p_310e_2 {x1 : Int32} (r : ∀ X : zR, zrc (h.1 m) 1 X = X) (e : zcall zP sv D 37 [.ref m, .int x1] h = some (.inr 2, h1)) : zcall zP sv (D + 1) 310 [.ref m, .int x1, .ref o] h = some (.inl (some (.int (nI 1))), h1) := by
  simp (disch := first | exact znw_u | exact znw_i) only [zc_310, zs_310_0, zs_310_0n, zs_310_1, zs_310_2, zs_310_2n, zs_310_3, zs_310_4, zs_310_7, zs_310_8, zs_310_9, zs_310_12, zs_310_12n, zs_310_13, zs_310_14, zs_310_15, zs_310_16, r, e, zbk_x, List.cons_append, List.nil_append]
  rfl
theorem p_311v {x1 : Int32} {x2 : Int32} {y : Int32} {l : Int64} (r : ∀ X : zR, zrc (h.1 m) 1 X = X) (e : zcall zP sv D 38 [.ref m, .int x1, .int x2] h = some (.inl (some (.int y)), h1)) (ho : h1.1 o = (22, [.long l])) : zcall zP sv (D + 1) 311 [.ref m, .int x1, .int x2, .ref o] h = some (.inl (some (.int 0)), zup h1 o (22, [.long y.toInt64])) := by
  simp (disch := first | exact znw_u | exact znw_i) only [zc_311, zs_311_0, zs_311_0n, zs_311_1, zs_311_2, zs_311_2n, zs_311_3, zs_311_4, zs_311_5, zs_311_8, zs_311_9, zs_311_10, zs_311_13, zs_311_13n, zs_311_15, zs_311_16, zs_311_17, zs_311_17n, zs_311_19, zs_311_20, zs_311_21, zs_311_22, r, e, ho, zlg, zbk_v, zts_s, List.cons_append, List.nil_append]
theorem p_311e_2 {x1 : Int32} {x2 : Int32} (r : ∀ X : zR, zrc (h.1 m) 1 X = X) (e : zcall zP sv D 38 [.ref m, .int x1, .int x2] h = some (.inr 2, h1)) : zcall zP sv (D + 1) 311 [.ref m, .int x1, .int x2, .ref o] h = some (.inl (some (.int (nI 1))), h1) := by
  simp (disch := first | exact znw_u | exact znw_i) only [zc_311, zs_311_0, zs_311_0n, zs_311_1, zs_311_2, zs_311_2n, zs_311_3, zs_311_4, zs_311_5, zs_311_8, zs_311_9, zs_311_10, zs_311_13, zs_311_13n, zs_311_15, zs_311_16, zs_311_17, zs_311_17n, zs_311_19, zs_311_20, zs_311_21, zs_311_22, r, e, zbk_x, List.cons_append, List.nil_append]
  rfl
theorem p_311e_1 {x1 : Int32} {x2 : Int32} (r : ∀ X : zR, zrc (h.1 m) 1 X = X) (e : zcall zP sv D 38 [.ref m, .int x1, .int x2] h = some (.inr 1, h1)) : zcall zP sv (D + 1) 311 [.ref m, .int x1, .int x2, .ref o] h = some (.inl (some (.int (nI 2))), h1) := by
  simp (disch := first | exact znw_u | exact znw_i) only [zc_311, zs_311_0, zs_311_0n, zs_311_1, zs_311_2, zs_311_2n, zs_311_3, zs_311_4, zs_311_5, zs_311_8, zs_311_9, zs_311_10, zs_311_13, zs_311_13n, zs_311_15, zs_311_16, zs_311_17, zs_311_17n, zs_311_19, zs_311_20, zs_311_21, zs_311_22, r, e, zbk_x, List.cons_append, List.nil_append]
  rfl
theorem p_312v {x1 : Int32} {y : Int32} {l : Int64} (r : ∀ X : zR, zrc (h.1 m) 1 X = X) (e : zcall zP sv D 39 [.ref m, .int x1] h = some (.inl (some (.int y)), h1)) (ho : h1.1 o = (22, [.long l])) : zcall zP sv (D + 1) 312 [.ref m, .int x1, .ref o] h = some (.inl (some (.int 0)), zup h1 o (22, [.long y.toInt64])) := by
  simp (disch := first | exact znw_u | exact znw_i) only [zc_312, zs_312_0, zs_312_0n, zs_312_1, zs_312_2, zs_312_2n, zs_312_3, zs_312_4, zs_312_7, zs_312_8, zs_312_9, zs_312_12, zs_312_12n, zs_312_13, zs_312_14, zs_312_15, zs_312_16, r, e, ho, zlg, zbk_v, zts_s, List.cons_append, List.nil_append]
theorem p_312e_2 {x1 : Int32} (r : ∀ X : zR, zrc (h.1 m) 1 X = X) (e : zcall zP sv D 39 [.ref m, .int x1] h = some (.inr 2, h1)) : zcall zP sv (D + 1) 312 [.ref m, .int x1, .ref o] h = some (.inl (some (.int (nI 1))), h1) := by
  simp (disch := first | exact znw_u | exact znw_i) only [zc_312, zs_312_0, zs_312_0n, zs_312_1, zs_312_2, zs_312_2n, zs_312_3, zs_312_4, zs_312_7, zs_312_8, zs_312_9, zs_312_12, zs_312_12n, zs_312_13, zs_312_14, zs_312_15, zs_312_16, r, e, zbk_x, List.cons_append, List.nil_append]
  rfl
theorem p_313v {x1 : Int32} {b : Bool} {l : Int64} (r : ∀ X : zR, zrc (h.1 m) 1 X = X) (e : zcall zP sv D 40 [.ref m, .int x1] h = some (.inl (some (.int (yb b))), h1)) (ho : h1.1 o = (22, [.long l])) : zcall zP sv (D + 1) 313 [.ref m, .int x1, .ref o] h = some (.inl (some (.int 0)), zup h1 o (22, [.long (if b = true then 1 else 0)])) := by
  cases b with
  | true =>
    rw [yb_t] at e
    simp (disch := first | exact znw_u | exact znw_i) only [zc_313, zs_313_0, zs_313_0n, zs_313_1, zs_313_2, zs_313_2n, zs_313_3, zs_313_4, zs_313_7, zs_313_10, zs_313_11, zs_313_14, zs_313_15, zs_313_16, zs_313_19, zs_313_19n, zs_313_20, zs_313_21, zs_313_22, zs_313_23, r, e, ho, zlg, zbk_v, zts_s, nI_1e0, Bool.false_eq_true, ↓reduceIte, List.cons_append, List.nil_append]
  | false =>
    rw [yb_f] at e
    simp (disch := first | exact znw_u | exact znw_i) only [zc_313, zs_313_0, zs_313_0n, zs_313_1, zs_313_2, zs_313_2n, zs_313_3, zs_313_4, zs_313_7, zs_313_10, zs_313_11, zs_313_14, zs_313_15, zs_313_16, zs_313_19, zs_313_19n, zs_313_20, zs_313_21, zs_313_22, zs_313_23, r, e, ho, zlg, zbk_v, zts_s, nI_1e0, Bool.false_eq_true, ↓reduceIte, List.cons_append, List.nil_append]
theorem p_313e_2 {x1 : Int32} (r : ∀ X : zR, zrc (h.1 m) 1 X = X) (e : zcall zP sv D 40 [.ref m, .int x1] h = some (.inr 2, h1)) : zcall zP sv (D + 1) 313 [.ref m, .int x1, .ref o] h = some (.inl (some (.int (nI 1))), h1) := by
  simp (disch := first | exact znw_u | exact znw_i) only [zc_313, zs_313_0, zs_313_0n, zs_313_1, zs_313_2, zs_313_2n, zs_313_3, zs_313_4, zs_313_7, zs_313_10, zs_313_11, zs_313_14, zs_313_15, zs_313_16, zs_313_19, zs_313_19n, zs_313_20, zs_313_21, zs_313_22, zs_313_23, r, e, zbk_x, List.cons_append, List.nil_append]
  rfl
theorem p_314v {x1 : Int32} {x2 : Int32} {b : Bool} {l : Int64} (r : ∀ X : zR, zrc (h.1 m) 1 X = X) (e : zcall zP sv D 41 [.ref m, .int x1, .int x2] h = some (.inl (some (.int (yb b))), h1)) (ho : h1.1 o = (22, [.long l])) : zcall zP sv (D + 1) 314 [.ref m, .int x1, .int x2, .ref o] h = some (.inl (some (.int 0)), zup h1 o (22, [.long (if b = true then 1 else 0)])) := by
  cases b with
  | true =>
    rw [yb_t] at e
    simp (disch := first | exact znw_u | exact znw_i) only [zc_314, zs_314_0, zs_314_0n, zs_314_1, zs_314_2, zs_314_2n, zs_314_3, zs_314_4, zs_314_5, zs_314_8, zs_314_11, zs_314_12, zs_314_15, zs_314_16, zs_314_17, zs_314_20, zs_314_20n, zs_314_22, zs_314_23, zs_314_24, zs_314_25, r, e, ho, zlg, zbk_v, zts_s, nI_1e0, Bool.false_eq_true, ↓reduceIte, List.cons_append, List.nil_append]
  | false =>
    rw [yb_f] at e
    simp (disch := first | exact znw_u | exact znw_i) only [zc_314, zs_314_0, zs_314_0n, zs_314_1, zs_314_2, zs_314_2n, zs_314_3, zs_314_4, zs_314_5, zs_314_8, zs_314_11, zs_314_12, zs_314_15, zs_314_16, zs_314_17, zs_314_20, zs_314_20n, zs_314_22, zs_314_23, zs_314_24, zs_314_25, r, e, ho, zlg, zbk_v, zts_s, nI_1e0, Bool.false_eq_true, ↓reduceIte, List.cons_append, List.nil_append]
theorem p_314e_2 {x1 : Int32} {x2 : Int32} (r : ∀ X : zR, zrc (h.1 m) 1 X = X) (e : zcall zP sv D 41 [.ref m, .int x1, .int x2] h = some (.inr 2, h1)) : zcall zP sv (D + 1) 314 [.ref m, .int x1, .int x2, .ref o] h = some (.inl (some (.int (nI 1))), h1) := by
  simp (disch := first | exact znw_u | exact znw_i) only [zc_314, zs_314_0, zs_314_0n, zs_314_1, zs_314_2, zs_314_2n, zs_314_3, zs_314_4, zs_314_5, zs_314_8, zs_314_11, zs_314_12, zs_314_15, zs_314_16, zs_314_17, zs_314_20, zs_314_20n, zs_314_22, zs_314_23, zs_314_24, zs_314_25, r, e, zbk_x, List.cons_append, List.nil_append]
  rfl
theorem p_315v {x1 : Int32} {y : Int32} {l : Int64} (r : ∀ X : zR, zrc (h.1 m) 1 X = X) (e : zcall zP sv D 42 [.ref m, .int x1] h = some (.inl (some (.int y)), h1)) (ho : h1.1 o = (22, [.long l])) : zcall zP sv (D + 1) 315 [.ref m, .int x1, .ref o] h = some (.inl (some (.int 0)), zup h1 o (22, [.long y.toInt64])) := by
  simp (disch := first | exact znw_u | exact znw_i) only [zc_315, zs_315_0, zs_315_0n, zs_315_1, zs_315_2, zs_315_2n, zs_315_3, zs_315_4, zs_315_7, zs_315_8, zs_315_9, zs_315_12, zs_315_12n, zs_315_13, zs_315_14, zs_315_15, zs_315_16, r, e, ho, zlg, zbk_v, zts_s, List.cons_append, List.nil_append]
theorem p_315e_2 {x1 : Int32} (r : ∀ X : zR, zrc (h.1 m) 1 X = X) (e : zcall zP sv D 42 [.ref m, .int x1] h = some (.inr 2, h1)) : zcall zP sv (D + 1) 315 [.ref m, .int x1, .ref o] h = some (.inl (some (.int (nI 1))), h1) := by
  simp (disch := first | exact znw_u | exact znw_i) only [zc_315, zs_315_0, zs_315_0n, zs_315_1, zs_315_2, zs_315_2n, zs_315_3, zs_315_4, zs_315_7, zs_315_8, zs_315_9, zs_315_12, zs_315_12n, zs_315_13, zs_315_14, zs_315_15, zs_315_16, r, e, zbk_x, List.cons_append, List.nil_append]
  rfl
theorem p_316v {x1 : Int32} {y : Int32} {l : Int64} (r : ∀ X : zR, zrc (h.1 m) 1 X = X) (e : zcall zP sv D 43 [.ref m, .int x1] h = some (.inl (some (.int y)), h1)) (ho : h1.1 o = (22, [.long l])) : zcall zP sv (D + 1) 316 [.ref m, .int x1, .ref o] h = some (.inl (some (.int 0)), zup h1 o (22, [.long y.toInt64])) := by
  simp (disch := first | exact znw_u | exact znw_i) only [zc_316, zs_316_0, zs_316_0n, zs_316_1, zs_316_2, zs_316_2n, zs_316_3, zs_316_4, zs_316_7, zs_316_8, zs_316_9, zs_316_12, zs_316_12n, zs_316_13, zs_316_14, zs_316_15, zs_316_16, r, e, ho, zlg, zbk_v, zts_s, List.cons_append, List.nil_append]
theorem p_316e_2 {x1 : Int32} (r : ∀ X : zR, zrc (h.1 m) 1 X = X) (e : zcall zP sv D 43 [.ref m, .int x1] h = some (.inr 2, h1)) : zcall zP sv (D + 1) 316 [.ref m, .int x1, .ref o] h = some (.inl (some (.int (nI 1))), h1) := by
  simp (disch := first | exact znw_u | exact znw_i) only [zc_316, zs_316_0, zs_316_0n, zs_316_1, zs_316_2, zs_316_2n, zs_316_3, zs_316_4, zs_316_7, zs_316_8, zs_316_9, zs_316_12, zs_316_12n, zs_316_13, zs_316_14, zs_316_15, zs_316_16, r, e, zbk_x, List.cons_append, List.nil_append]
  rfl
theorem p_317v {x1 : Int32} {x2 : Int32} {y : Int32} {l : Int64} (r : ∀ X : zR, zrc (h.1 m) 1 X = X) (e : zcall zP sv D 44 [.ref m, .int x1, .int x2] h = some (.inl (some (.int y)), h1)) (ho : h1.1 o = (22, [.long l])) : zcall zP sv (D + 1) 317 [.ref m, .int x1, .int x2, .ref o] h = some (.inl (some (.int 0)), zup h1 o (22, [.long y.toInt64])) := by
  simp (disch := first | exact znw_u | exact znw_i) only [zc_317, zs_317_0, zs_317_0n, zs_317_1, zs_317_2, zs_317_2n, zs_317_3, zs_317_4, zs_317_5, zs_317_8, zs_317_9, zs_317_10, zs_317_13, zs_317_13n, zs_317_15, zs_317_16, zs_317_17, zs_317_18, r, e, ho, zlg, zbk_v, zts_s, List.cons_append, List.nil_append]
theorem p_317e_2 {x1 : Int32} {x2 : Int32} (r : ∀ X : zR, zrc (h.1 m) 1 X = X) (e : zcall zP sv D 44 [.ref m, .int x1, .int x2] h = some (.inr 2, h1)) : zcall zP sv (D + 1) 317 [.ref m, .int x1, .int x2, .ref o] h = some (.inl (some (.int (nI 1))), h1) := by
  simp (disch := first | exact znw_u | exact znw_i) only [zc_317, zs_317_0, zs_317_0n, zs_317_1, zs_317_2, zs_317_2n, zs_317_3, zs_317_4, zs_317_5, zs_317_8, zs_317_9, zs_317_10, zs_317_13, zs_317_13n, zs_317_15, zs_317_16, zs_317_17, zs_317_18, r, e, zbk_x, List.cons_append, List.nil_append]
  rfl
theorem p_318v {x1 : Int32} {y : Int32} {l : Int64} (r : ∀ X : zR, zrc (h.1 m) 1 X = X) (e : zcall zP sv D 45 [.ref m, .int x1] h = some (.inl (some (.int y)), h1)) (ho : h1.1 o = (22, [.long l])) : zcall zP sv (D + 1) 318 [.ref m, .int x1, .ref o] h = some (.inl (some (.int 0)), zup h1 o (22, [.long y.toInt64])) := by
  simp (disch := first | exact znw_u | exact znw_i) only [zc_318, zs_318_0, zs_318_0n, zs_318_1, zs_318_2, zs_318_2n, zs_318_3, zs_318_4, zs_318_7, zs_318_8, zs_318_9, zs_318_12, zs_318_12n, zs_318_13, zs_318_14, zs_318_15, zs_318_16, r, e, ho, zlg, zbk_v, zts_s, List.cons_append, List.nil_append]
theorem p_318e_2 {x1 : Int32} (r : ∀ X : zR, zrc (h.1 m) 1 X = X) (e : zcall zP sv D 45 [.ref m, .int x1] h = some (.inr 2, h1)) : zcall zP sv (D + 1) 318 [.ref m, .int x1, .ref o] h = some (.inl (some (.int (nI 1))), h1) := by
  simp (disch := first | exact znw_u | exact znw_i) only [zc_318, zs_318_0, zs_318_0n, zs_318_1, zs_318_2, zs_318_2n, zs_318_3, zs_318_4, zs_318_7, zs_318_8, zs_318_9, zs_318_12, zs_318_12n, zs_318_13, zs_318_14, zs_318_15, zs_318_16, r, e, zbk_x, List.cons_append, List.nil_append]
  rfl
theorem p_319v {x1 : Int32} {y : Int32} {l : Int64} (r : ∀ X : zR, zrc (h.1 m) 1 X = X) (e : zcall zP sv D 46 [.ref m, .int x1] h = some (.inl (some (.int y)), h1)) (ho : h1.1 o = (22, [.long l])) : zcall zP sv (D + 1) 319 [.ref m, .int x1, .ref o] h = some (.inl (some (.int 0)), zup h1 o (22, [.long y.toInt64])) := by
  simp (disch := first | exact znw_u | exact znw_i) only [zc_319, zs_319_0, zs_319_0n, zs_319_1, zs_319_2, zs_319_2n, zs_319_3, zs_319_4, zs_319_7, zs_319_8, zs_319_9, zs_319_12, zs_319_12n, zs_319_13, zs_319_14, zs_319_15, zs_319_16, r, e, ho, zlg, zbk_v, zts_s, List.cons_append, List.nil_append]
theorem p_319e_2 {x1 : Int32} (r : ∀ X : zR, zrc (h.1 m) 1 X = X) (e : zcall zP sv D 46 [.ref m, .int x1] h = some (.inr 2, h1)) : zcall zP sv (D + 1) 319 [.ref m, .int x1, .ref o] h = some (.inl (some (.int (nI 1))), h1) := by
  simp (disch := first | exact znw_u | exact znw_i) only [zc_319, zs_319_0, zs_319_0n, zs_319_1, zs_319_2, zs_319_2n, zs_319_3, zs_319_4, zs_319_7, zs_319_8, zs_319_9, zs_319_12, zs_319_12n, zs_319_13, zs_319_14, zs_319_15, zs_319_16, r, e, zbk_x, List.cons_append, List.nil_append]
  rfl
theorem p_320v {x1 : Int32} {x2 : Int32} {y : Int32} {l : Int64} (r : ∀ X : zR, zrc (h.1 m) 1 X = X) (e : zcall zP sv D 47 [.ref m, .int x1, .int x2] h = some (.inl (some (.int y)), h1)) (ho : h1.1 o = (22, [.long l])) : zcall zP sv (D + 1) 320 [.ref m, .int x1, .int x2, .ref o] h = some (.inl (some (.int 0)), zup h1 o (22, [.long y.toInt64])) := by
  simp (disch := first | exact znw_u | exact znw_i) only [zc_320, zs_320_0, zs_320_0n, zs_320_1, zs_320_2, zs_320_2n, zs_320_3, zs_320_4, zs_320_5, zs_320_8, zs_320_9, zs_320_10, zs_320_13, zs_320_13n, zs_320_15, zs_320_16, zs_320_17, zs_320_17n, zs_320_19, zs_320_20, zs_320_21, zs_320_22, r, e, ho, zlg, zbk_v, zts_s, List.cons_append, List.nil_append]
theorem p_320e_2 {x1 : Int32} {x2 : Int32} (r : ∀ X : zR, zrc (h.1 m) 1 X = X) (e : zcall zP sv D 47 [.ref m, .int x1, .int x2] h = some (.inr 2, h1)) : zcall zP sv (D + 1) 320 [.ref m, .int x1, .int x2, .ref o] h = some (.inl (some (.int (nI 1))), h1) := by
  simp (disch := first | exact znw_u | exact znw_i) only [zc_320, zs_320_0, zs_320_0n, zs_320_1, zs_320_2, zs_320_2n, zs_320_3, zs_320_4, zs_320_5, zs_320_8, zs_320_9, zs_320_10, zs_320_13, zs_320_13n, zs_320_15, zs_320_16, zs_320_17, zs_320_17n, zs_320_19, zs_320_20, zs_320_21, zs_320_22, r, e, zbk_x, List.cons_append, List.nil_append]
  rfl
theorem p_320e_1 {x1 : Int32} {x2 : Int32} (r : ∀ X : zR, zrc (h.1 m) 1 X = X) (e : zcall zP sv D 47 [.ref m, .int x1, .int x2] h = some (.inr 1, h1)) : zcall zP sv (D + 1) 320 [.ref m, .int x1, .int x2, .ref o] h = some (.inl (some (.int (nI 2))), h1) := by
  simp (disch := first | exact znw_u | exact znw_i) only [zc_320, zs_320_0, zs_320_0n, zs_320_1, zs_320_2, zs_320_2n, zs_320_3, zs_320_4, zs_320_5, zs_320_8, zs_320_9, zs_320_10, zs_320_13, zs_320_13n, zs_320_15, zs_320_16, zs_320_17, zs_320_17n, zs_320_19, zs_320_20, zs_320_21, zs_320_22, r, e, zbk_x, List.cons_append, List.nil_append]
  rfl
theorem p_321v {x1 : Int32} {x2 : Int32} {y : Int32} {l : Int64} (r : ∀ X : zR, zrc (h.1 m) 1 X = X) (e : zcall zP sv D 48 [.ref m, .int x1, .int x2] h = some (.inl (some (.int y)), h1)) (ho : h1.1 o = (22, [.long l])) : zcall zP sv (D + 1) 321 [.ref m, .int x1, .int x2, .ref o] h = some (.inl (some (.int 0)), zup h1 o (22, [.long y.toInt64])) := by
  simp (disch := first | exact znw_u | exact znw_i) only [zc_321, zs_321_0, zs_321_0n, zs_321_1, zs_321_2, zs_321_2n, zs_321_3, zs_321_4, zs_321_5, zs_321_8, zs_321_9, zs_321_10, zs_321_13, zs_321_13n, zs_321_15, zs_321_16, zs_321_17, zs_321_17n, zs_321_19, zs_321_20, zs_321_21, zs_321_22, r, e, ho, zlg, zbk_v, zts_s, List.cons_append, List.nil_append]
theorem p_321e_2 {x1 : Int32} {x2 : Int32} (r : ∀ X : zR, zrc (h.1 m) 1 X = X) (e : zcall zP sv D 48 [.ref m, .int x1, .int x2] h = some (.inr 2, h1)) : zcall zP sv (D + 1) 321 [.ref m, .int x1, .int x2, .ref o] h = some (.inl (some (.int (nI 1))), h1) := by
  simp (disch := first | exact znw_u | exact znw_i) only [zc_321, zs_321_0, zs_321_0n, zs_321_1, zs_321_2, zs_321_2n, zs_321_3, zs_321_4, zs_321_5, zs_321_8, zs_321_9, zs_321_10, zs_321_13, zs_321_13n, zs_321_15, zs_321_16, zs_321_17, zs_321_17n, zs_321_19, zs_321_20, zs_321_21, zs_321_22, r, e, zbk_x, List.cons_append, List.nil_append]
  rfl
theorem p_321e_1 {x1 : Int32} {x2 : Int32} (r : ∀ X : zR, zrc (h.1 m) 1 X = X) (e : zcall zP sv D 48 [.ref m, .int x1, .int x2] h = some (.inr 1, h1)) : zcall zP sv (D + 1) 321 [.ref m, .int x1, .int x2, .ref o] h = some (.inl (some (.int (nI 2))), h1) := by
  simp (disch := first | exact znw_u | exact znw_i) only [zc_321, zs_321_0, zs_321_0n, zs_321_1, zs_321_2, zs_321_2n, zs_321_3, zs_321_4, zs_321_5, zs_321_8, zs_321_9, zs_321_10, zs_321_13, zs_321_13n, zs_321_15, zs_321_16, zs_321_17, zs_321_17n, zs_321_19, zs_321_20, zs_321_21, zs_321_22, r, e, zbk_x, List.cons_append, List.nil_append]
  rfl
theorem p_322v {x1 : Int32} {y : Int32} {l : Int64} (r : ∀ X : zR, zrc (h.1 m) 1 X = X) (e : zcall zP sv D 49 [.ref m, .int x1] h = some (.inl (some (.int y)), h1)) (ho : h1.1 o = (22, [.long l])) : zcall zP sv (D + 1) 322 [.ref m, .int x1, .ref o] h = some (.inl (some (.int 0)), zup h1 o (22, [.long y.toInt64])) := by
  simp (disch := first | exact znw_u | exact znw_i) only [zc_322, zs_322_0, zs_322_0n, zs_322_1, zs_322_2, zs_322_2n, zs_322_3, zs_322_4, zs_322_7, zs_322_8, zs_322_9, zs_322_12, zs_322_12n, zs_322_13, zs_322_14, zs_322_15, zs_322_16, r, e, ho, zlg, zbk_v, zts_s, List.cons_append, List.nil_append]
theorem p_322e_2 {x1 : Int32} (r : ∀ X : zR, zrc (h.1 m) 1 X = X) (e : zcall zP sv D 49 [.ref m, .int x1] h = some (.inr 2, h1)) : zcall zP sv (D + 1) 322 [.ref m, .int x1, .ref o] h = some (.inl (some (.int (nI 1))), h1) := by
  simp (disch := first | exact znw_u | exact znw_i) only [zc_322, zs_322_0, zs_322_0n, zs_322_1, zs_322_2, zs_322_2n, zs_322_3, zs_322_4, zs_322_7, zs_322_8, zs_322_9, zs_322_12, zs_322_12n, zs_322_13, zs_322_14, zs_322_15, zs_322_16, r, e, zbk_x, List.cons_append, List.nil_append]
  rfl
theorem p_323v {x1 : Int32} {y : Int32} {l : Int64} (r : ∀ X : zR, zrc (h.1 m) 1 X = X) (e : zcall zP sv D 50 [.ref m, .int x1] h = some (.inl (some (.int y)), h1)) (ho : h1.1 o = (22, [.long l])) : zcall zP sv (D + 1) 323 [.ref m, .int x1, .ref o] h = some (.inl (some (.int 0)), zup h1 o (22, [.long y.toInt64])) := by
  simp (disch := first | exact znw_u | exact znw_i) only [zc_323, zs_323_0, zs_323_0n, zs_323_1, zs_323_2, zs_323_2n, zs_323_3, zs_323_4, zs_323_7, zs_323_8, zs_323_9, zs_323_12, zs_323_12n, zs_323_13, zs_323_14, zs_323_15, zs_323_16, r, e, ho, zlg, zbk_v, zts_s, List.cons_append, List.nil_append]
theorem p_323e_2 {x1 : Int32} (r : ∀ X : zR, zrc (h.1 m) 1 X = X) (e : zcall zP sv D 50 [.ref m, .int x1] h = some (.inr 2, h1)) : zcall zP sv (D + 1) 323 [.ref m, .int x1, .ref o] h = some (.inl (some (.int (nI 1))), h1) := by
  simp (disch := first | exact znw_u | exact znw_i) only [zc_323, zs_323_0, zs_323_0n, zs_323_1, zs_323_2, zs_323_2n, zs_323_3, zs_323_4, zs_323_7, zs_323_8, zs_323_9, zs_323_12, zs_323_12n, zs_323_13, zs_323_14, zs_323_15, zs_323_16, r, e, zbk_x, List.cons_append, List.nil_append]
  rfl
theorem p_324v {x1 : Int32} {y : Int32} {l : Int64} (r : ∀ X : zR, zrc (h.1 m) 1 X = X) (e : zcall zP sv D 51 [.ref m, .int x1] h = some (.inl (some (.int y)), h1)) (ho : h1.1 o = (22, [.long l])) : zcall zP sv (D + 1) 324 [.ref m, .int x1, .ref o] h = some (.inl (some (.int 0)), zup h1 o (22, [.long y.toInt64])) := by
  simp (disch := first | exact znw_u | exact znw_i) only [zc_324, zs_324_0, zs_324_0n, zs_324_1, zs_324_2, zs_324_2n, zs_324_3, zs_324_4, zs_324_7, zs_324_8, zs_324_9, zs_324_12, zs_324_12n, zs_324_13, zs_324_14, zs_324_15, zs_324_16, r, e, ho, zlg, zbk_v, zts_s, List.cons_append, List.nil_append]
theorem p_324e_2 {x1 : Int32} (r : ∀ X : zR, zrc (h.1 m) 1 X = X) (e : zcall zP sv D 51 [.ref m, .int x1] h = some (.inr 2, h1)) : zcall zP sv (D + 1) 324 [.ref m, .int x1, .ref o] h = some (.inl (some (.int (nI 1))), h1) := by
  simp (disch := first | exact znw_u | exact znw_i) only [zc_324, zs_324_0, zs_324_0n, zs_324_1, zs_324_2, zs_324_2n, zs_324_3, zs_324_4, zs_324_7, zs_324_8, zs_324_9, zs_324_12, zs_324_12n, zs_324_13, zs_324_14, zs_324_15, zs_324_16, r, e, zbk_x, List.cons_append, List.nil_append]
  rfl
theorem p_325v {x1 : Int32} {y : Int32} {l : Int64} (r : ∀ X : zR, zrc (h.1 m) 1 X = X) (e : zcall zP sv D 52 [.ref m, .int x1] h = some (.inl (some (.int y)), h1)) (ho : h1.1 o = (22, [.long l])) : zcall zP sv (D + 1) 325 [.ref m, .int x1, .ref o] h = some (.inl (some (.int 0)), zup h1 o (22, [.long y.toInt64])) := by
  simp (disch := first | exact znw_u | exact znw_i) only [zc_325, zs_325_0, zs_325_0n, zs_325_1, zs_325_2, zs_325_2n, zs_325_3, zs_325_4, zs_325_7, zs_325_8, zs_325_9, zs_325_12, zs_325_12n, zs_325_13, zs_325_14, zs_325_15, zs_325_16, r, e, ho, zlg, zbk_v, zts_s, List.cons_append, List.nil_append]
theorem p_325e_2 {x1 : Int32} (r : ∀ X : zR, zrc (h.1 m) 1 X = X) (e : zcall zP sv D 52 [.ref m, .int x1] h = some (.inr 2, h1)) : zcall zP sv (D + 1) 325 [.ref m, .int x1, .ref o] h = some (.inl (some (.int (nI 1))), h1) := by
  simp (disch := first | exact znw_u | exact znw_i) only [zc_325, zs_325_0, zs_325_0n, zs_325_1, zs_325_2, zs_325_2n, zs_325_3, zs_325_4, zs_325_7, zs_325_8, zs_325_9, zs_325_12, zs_325_12n, zs_325_13, zs_325_14, zs_325_15, zs_325_16, r, e, zbk_x, List.cons_append, List.nil_append]
  rfl
theorem p_326v {x1 : Int32} {y : Int32} {l : Int64} (r : ∀ X : zR, zrc (h.1 m) 1 X = X) (e : zcall zP sv D 53 [.ref m, .int x1] h = some (.inl (some (.int y)), h1)) (ho : h1.1 o = (22, [.long l])) : zcall zP sv (D + 1) 326 [.ref m, .int x1, .ref o] h = some (.inl (some (.int 0)), zup h1 o (22, [.long y.toInt64])) := by
  simp (disch := first | exact znw_u | exact znw_i) only [zc_326, zs_326_0, zs_326_0n, zs_326_1, zs_326_2, zs_326_2n, zs_326_3, zs_326_4, zs_326_7, zs_326_8, zs_326_9, zs_326_12, zs_326_12n, zs_326_13, zs_326_14, zs_326_15, zs_326_16, r, e, ho, zlg, zbk_v, zts_s, List.cons_append, List.nil_append]
theorem p_326e_2 {x1 : Int32} (r : ∀ X : zR, zrc (h.1 m) 1 X = X) (e : zcall zP sv D 53 [.ref m, .int x1] h = some (.inr 2, h1)) : zcall zP sv (D + 1) 326 [.ref m, .int x1, .ref o] h = some (.inl (some (.int (nI 1))), h1) := by
  simp (disch := first | exact znw_u | exact znw_i) only [zc_326, zs_326_0, zs_326_0n, zs_326_1, zs_326_2, zs_326_2n, zs_326_3, zs_326_4, zs_326_7, zs_326_8, zs_326_9, zs_326_12, zs_326_12n, zs_326_13, zs_326_14, zs_326_15, zs_326_16, r, e, zbk_x, List.cons_append, List.nil_append]
  rfl
theorem p_327v {x1 : Int32} {y : Int32} {l : Int64} (r : ∀ X : zR, zrc (h.1 m) 1 X = X) (e : zcall zP sv D 54 [.ref m, .int x1] h = some (.inl (some (.int y)), h1)) (ho : h1.1 o = (22, [.long l])) : zcall zP sv (D + 1) 327 [.ref m, .int x1, .ref o] h = some (.inl (some (.int 0)), zup h1 o (22, [.long y.toInt64])) := by
  simp (disch := first | exact znw_u | exact znw_i) only [zc_327, zs_327_0, zs_327_0n, zs_327_1, zs_327_2, zs_327_2n, zs_327_3, zs_327_4, zs_327_7, zs_327_8, zs_327_9, zs_327_12, zs_327_12n, zs_327_13, zs_327_14, zs_327_15, zs_327_15n, zs_327_16, zs_327_17, zs_327_18, zs_327_19, r, e, ho, zlg, zbk_v, zts_s, List.cons_append, List.nil_append]
theorem p_327e_2 {x1 : Int32} (r : ∀ X : zR, zrc (h.1 m) 1 X = X) (e : zcall zP sv D 54 [.ref m, .int x1] h = some (.inr 2, h1)) : zcall zP sv (D + 1) 327 [.ref m, .int x1, .ref o] h = some (.inl (some (.int (nI 1))), h1) := by
  simp (disch := first | exact znw_u | exact znw_i) only [zc_327, zs_327_0, zs_327_0n, zs_327_1, zs_327_2, zs_327_2n, zs_327_3, zs_327_4, zs_327_7, zs_327_8, zs_327_9, zs_327_12, zs_327_12n, zs_327_13, zs_327_14, zs_327_15, zs_327_15n, zs_327_16, zs_327_17, zs_327_18, zs_327_19, r, e, zbk_x, List.cons_append, List.nil_append]
  rfl
theorem p_327e_4 {x1 : Int32} (r : ∀ X : zR, zrc (h.1 m) 1 X = X) (e : zcall zP sv D 54 [.ref m, .int x1] h = some (.inr 4, h1)) : zcall zP sv (D + 1) 327 [.ref m, .int x1, .ref o] h = some (.inl (some (.int (nI 2))), h1) := by
  simp (disch := first | exact znw_u | exact znw_i) only [zc_327, zs_327_0, zs_327_0n, zs_327_1, zs_327_2, zs_327_2n, zs_327_3, zs_327_4, zs_327_7, zs_327_8, zs_327_9, zs_327_12, zs_327_12n, zs_327_13, zs_327_14, zs_327_15, zs_327_15n, zs_327_16, zs_327_17, zs_327_18, zs_327_19, r, e, zbk_x, List.cons_append, List.nil_append]
  rfl
theorem p_328v {x1 : Int32} {x2 : Int32} {y : Int32} {l : Int64} (r : ∀ X : zR, zrc (h.1 m) 1 X = X) (e : zcall zP sv D 55 [.ref m, .int x1, .int x2] h = some (.inl (some (.int y)), h1)) (ho : h1.1 o = (22, [.long l])) : zcall zP sv (D + 1) 328 [.ref m, .int x1, .int x2, .ref o] h = some (.inl (some (.int 0)), zup h1 o (22, [.long y.toInt64])) := by
  simp (disch := first | exact znw_u | exact znw_i) only [zc_328, zs_328_0, zs_328_0n, zs_328_1, zs_328_2, zs_328_2n, zs_328_3, zs_328_4, zs_328_5, zs_328_8, zs_328_9, zs_328_10, zs_328_13, zs_328_13n, zs_328_15, zs_328_16, zs_328_17, zs_328_18, r, e, ho, zlg, zbk_v, zts_s, List.cons_append, List.nil_append]
theorem p_328e_2 {x1 : Int32} {x2 : Int32} (r : ∀ X : zR, zrc (h.1 m) 1 X = X) (e : zcall zP sv D 55 [.ref m, .int x1, .int x2] h = some (.inr 2, h1)) : zcall zP sv (D + 1) 328 [.ref m, .int x1, .int x2, .ref o] h = some (.inl (some (.int (nI 1))), h1) := by
  simp (disch := first | exact znw_u | exact znw_i) only [zc_328, zs_328_0, zs_328_0n, zs_328_1, zs_328_2, zs_328_2n, zs_328_3, zs_328_4, zs_328_5, zs_328_8, zs_328_9, zs_328_10, zs_328_13, zs_328_13n, zs_328_15, zs_328_16, zs_328_17, zs_328_18, r, e, zbk_x, List.cons_append, List.nil_append]
  rfl
theorem p_329v {x1 : Int32} {x2 : Int32} {y : Int32} {l : Int64} (r : ∀ X : zR, zrc (h.1 m) 1 X = X) (e : zcall zP sv D 56 [.ref m, .int x1, .int x2] h = some (.inl (some (.int y)), h1)) (ho : h1.1 o = (22, [.long l])) : zcall zP sv (D + 1) 329 [.ref m, .int x1, .int x2, .ref o] h = some (.inl (some (.int 0)), zup h1 o (22, [.long y.toInt64])) := by
  simp (disch := first | exact znw_u | exact znw_i) only [zc_329, zs_329_0, zs_329_0n, zs_329_1, zs_329_2, zs_329_2n, zs_329_3, zs_329_4, zs_329_5, zs_329_8, zs_329_9, zs_329_10, zs_329_13, zs_329_13n, zs_329_15, zs_329_16, zs_329_17, zs_329_18, r, e, ho, zlg, zbk_v, zts_s, List.cons_append, List.nil_append]
theorem p_329e_2 {x1 : Int32} {x2 : Int32} (r : ∀ X : zR, zrc (h.1 m) 1 X = X) (e : zcall zP sv D 56 [.ref m, .int x1, .int x2] h = some (.inr 2, h1)) : zcall zP sv (D + 1) 329 [.ref m, .int x1, .int x2, .ref o] h = some (.inl (some (.int (nI 1))), h1) := by
  simp (disch := first | exact znw_u | exact znw_i) only [zc_329, zs_329_0, zs_329_0n, zs_329_1, zs_329_2, zs_329_2n, zs_329_3, zs_329_4, zs_329_5, zs_329_8, zs_329_9, zs_329_10, zs_329_13, zs_329_13n, zs_329_15, zs_329_16, zs_329_17, zs_329_18, r, e, zbk_x, List.cons_append, List.nil_append]
  rfl
theorem p_330v {x1 : Int32} {x2 : Int32} {y : Int32} {l : Int64} (r : ∀ X : zR, zrc (h.1 m) 1 X = X) (e : zcall zP sv D 57 [.ref m, .int x1, .int x2] h = some (.inl (some (.int y)), h1)) (ho : h1.1 o = (22, [.long l])) : zcall zP sv (D + 1) 330 [.ref m, .int x1, .int x2, .ref o] h = some (.inl (some (.int 0)), zup h1 o (22, [.long y.toInt64])) := by
  simp (disch := first | exact znw_u | exact znw_i) only [zc_330, zs_330_0, zs_330_0n, zs_330_1, zs_330_2, zs_330_2n, zs_330_3, zs_330_4, zs_330_5, zs_330_8, zs_330_9, zs_330_10, zs_330_13, zs_330_13n, zs_330_15, zs_330_16, zs_330_17, zs_330_18, r, e, ho, zlg, zbk_v, zts_s, List.cons_append, List.nil_append]
theorem p_330e_2 {x1 : Int32} {x2 : Int32} (r : ∀ X : zR, zrc (h.1 m) 1 X = X) (e : zcall zP sv D 57 [.ref m, .int x1, .int x2] h = some (.inr 2, h1)) : zcall zP sv (D + 1) 330 [.ref m, .int x1, .int x2, .ref o] h = some (.inl (some (.int (nI 1))), h1) := by
  simp (disch := first | exact znw_u | exact znw_i) only [zc_330, zs_330_0, zs_330_0n, zs_330_1, zs_330_2, zs_330_2n, zs_330_3, zs_330_4, zs_330_5, zs_330_8, zs_330_9, zs_330_10, zs_330_13, zs_330_13n, zs_330_15, zs_330_16, zs_330_17, zs_330_18, r, e, zbk_x, List.cons_append, List.nil_append]
  rfl
theorem p_331v {x1 : Int32} {y : Int32} {l : Int64} (r : ∀ X : zR, zrc (h.1 m) 1 X = X) (e : zcall zP sv D 58 [.ref m, .int x1] h = some (.inl (some (.int y)), h1)) (ho : h1.1 o = (22, [.long l])) : zcall zP sv (D + 1) 331 [.ref m, .int x1, .ref o] h = some (.inl (some (.int 0)), zup h1 o (22, [.long y.toInt64])) := by
  simp (disch := first | exact znw_u | exact znw_i) only [zc_331, zs_331_0, zs_331_0n, zs_331_1, zs_331_2, zs_331_2n, zs_331_3, zs_331_4, zs_331_7, zs_331_8, zs_331_9, zs_331_12, zs_331_12n, zs_331_13, zs_331_14, zs_331_15, zs_331_16, r, e, ho, zlg, zbk_v, zts_s, List.cons_append, List.nil_append]
theorem p_331e_2 {x1 : Int32} (r : ∀ X : zR, zrc (h.1 m) 1 X = X) (e : zcall zP sv D 58 [.ref m, .int x1] h = some (.inr 2, h1)) : zcall zP sv (D + 1) 331 [.ref m, .int x1, .ref o] h = some (.inl (some (.int (nI 1))), h1) := by
  simp (disch := first | exact znw_u | exact znw_i) only [zc_331, zs_331_0, zs_331_0n, zs_331_1, zs_331_2, zs_331_2n, zs_331_3, zs_331_4, zs_331_7, zs_331_8, zs_331_9, zs_331_12, zs_331_12n, zs_331_13, zs_331_14, zs_331_15, zs_331_16, r, e, zbk_x, List.cons_append, List.nil_append]
  rfl
theorem p_332v {x1 : Int32} {y : Int32} {l : Int64} (r : ∀ X : zR, zrc (h.1 m) 1 X = X) (e : zcall zP sv D 59 [.ref m, .int x1] h = some (.inl (some (.int y)), h1)) (ho : h1.1 o = (22, [.long l])) : zcall zP sv (D + 1) 332 [.ref m, .int x1, .ref o] h = some (.inl (some (.int 0)), zup h1 o (22, [.long y.toInt64])) := by
  simp (disch := first | exact znw_u | exact znw_i) only [zc_332, zs_332_0, zs_332_0n, zs_332_1, zs_332_2, zs_332_2n, zs_332_3, zs_332_4, zs_332_7, zs_332_8, zs_332_9, zs_332_12, zs_332_12n, zs_332_13, zs_332_14, zs_332_15, zs_332_16, r, e, ho, zlg, zbk_v, zts_s, List.cons_append, List.nil_append]
theorem p_332e_2 {x1 : Int32} (r : ∀ X : zR, zrc (h.1 m) 1 X = X) (e : zcall zP sv D 59 [.ref m, .int x1] h = some (.inr 2, h1)) : zcall zP sv (D + 1) 332 [.ref m, .int x1, .ref o] h = some (.inl (some (.int (nI 1))), h1) := by
  simp (disch := first | exact znw_u | exact znw_i) only [zc_332, zs_332_0, zs_332_0n, zs_332_1, zs_332_2, zs_332_2n, zs_332_3, zs_332_4, zs_332_7, zs_332_8, zs_332_9, zs_332_12, zs_332_12n, zs_332_13, zs_332_14, zs_332_15, zs_332_16, r, e, zbk_x, List.cons_append, List.nil_append]
  rfl
theorem p_333v {x1 : Int32} {y : Int32} {l : Int64} (r : ∀ X : zR, zrc (h.1 m) 1 X = X) (e : zcall zP sv D 60 [.ref m, .int x1] h = some (.inl (some (.int y)), h1)) (ho : h1.1 o = (22, [.long l])) : zcall zP sv (D + 1) 333 [.ref m, .int x1, .ref o] h = some (.inl (some (.int 0)), zup h1 o (22, [.long y.toInt64])) := by
  simp (disch := first | exact znw_u | exact znw_i) only [zc_333, zs_333_0, zs_333_0n, zs_333_1, zs_333_2, zs_333_2n, zs_333_3, zs_333_4, zs_333_7, zs_333_8, zs_333_9, zs_333_12, zs_333_12n, zs_333_13, zs_333_14, zs_333_15, zs_333_16, r, e, ho, zlg, zbk_v, zts_s, List.cons_append, List.nil_append]
theorem p_333e_4 {x1 : Int32} (r : ∀ X : zR, zrc (h.1 m) 1 X = X) (e : zcall zP sv D 60 [.ref m, .int x1] h = some (.inr 4, h1)) : zcall zP sv (D + 1) 333 [.ref m, .int x1, .ref o] h = some (.inl (some (.int (nI 1))), h1) := by
  simp (disch := first | exact znw_u | exact znw_i) only [zc_333, zs_333_0, zs_333_0n, zs_333_1, zs_333_2, zs_333_2n, zs_333_3, zs_333_4, zs_333_7, zs_333_8, zs_333_9, zs_333_12, zs_333_12n, zs_333_13, zs_333_14, zs_333_15, zs_333_16, r, e, zbk_x, List.cons_append, List.nil_append]
  rfl
theorem p_334v {y : UInt64} {l : UInt64} (r : ∀ X : zR, zrc (h.1 m) 1 X = X) (e : zcall zP sv D 62 [.ref m] h = some (.inl (some (.double y)), h1)) (ho : h1.1 o = (23, [.double l])) : zcall zP sv (D + 1) 334 [.ref m, .ref o] h = some (.inl (some (.int 0)), zup h1 o (23, [.double (y)])) := by
  simp (disch := first | exact znw_u | exact znw_i) only [zc_334, zs_334_0, zs_334_0n, zs_334_1, zs_334_2, zs_334_2n, zs_334_3, zs_334_6, zs_334_7, zs_334_10, zs_334_10n, zs_334_11, zs_334_12, zs_334_13, zs_334_14, r, e, ho, zdb, zbk_v, zts_s, List.cons_append, List.nil_append]
theorem p_334e_5 (r : ∀ X : zR, zrc (h.1 m) 1 X = X) (e : zcall zP sv D 62 [.ref m] h = some (.inr 5, h1)) : zcall zP sv (D + 1) 334 [.ref m, .ref o] h = some (.inl (some (.int (nI 1))), h1) := by
  simp (disch := first | exact znw_u | exact znw_i) only [zc_334, zs_334_0, zs_334_0n, zs_334_1, zs_334_2, zs_334_2n, zs_334_3, zs_334_6, zs_334_7, zs_334_10, zs_334_10n, zs_334_11, zs_334_12, zs_334_13, zs_334_14, r, e, zbk_x, List.cons_append, List.nil_append]
  rfl
theorem p_335v {x1 : Int32} {y : UInt32} {l : UInt64} (r : ∀ X : zR, zrc (h.1 m) 1 X = X) (hn : decide (FP.f2d y &&& 9223372036854775807 ≤ 9218868437227405312) = true) (e : zcall zP sv D 63 [.ref m, .int x1] h = some (.inl (some (.float y)), h1)) (ho : h1.1 o = (23, [.double l])) : zcall zP sv (D + 1) 335 [.ref m, .int x1, .ref o] h = some (.inl (some (.int 0)), zup h1 o (23, [.double (FP.f2d y)])) := by
  simp (disch := first | exact znw_u | exact znw_i) only [zc_335, zs_335_0, zs_335_0n, zs_335_1, zs_335_2, zs_335_2n, zs_335_3, zs_335_4, zs_335_7, zs_335_8, zs_335_9, zs_335_12, zs_335_12n, zs_335_13, zs_335_14, zs_335_15, zs_335_16, r, e, ho, zdb, zbk_v, zts_s, hn, zgd_t, List.cons_append, List.nil_append]
theorem p_335e_2 {x1 : Int32} (r : ∀ X : zR, zrc (h.1 m) 1 X = X) (e : zcall zP sv D 63 [.ref m, .int x1] h = some (.inr 2, h1)) : zcall zP sv (D + 1) 335 [.ref m, .int x1, .ref o] h = some (.inl (some (.int (nI 1))), h1) := by
  simp (disch := first | exact znw_u | exact znw_i) only [zc_335, zs_335_0, zs_335_0n, zs_335_1, zs_335_2, zs_335_2n, zs_335_3, zs_335_4, zs_335_7, zs_335_8, zs_335_9, zs_335_12, zs_335_12n, zs_335_13, zs_335_14, zs_335_15, zs_335_16, r, e, zbk_x, List.cons_append, List.nil_append]
  rfl
theorem p_336v {y : Int32} {l : Int64} (r : ∀ X : zR, zrc (h.1 m) 1 X = X) (e : zcall zP sv D 65 [.ref m] h = some (.inl (some (.int y)), h1)) (ho : h1.1 o = (22, [.long l])) : zcall zP sv (D + 1) 336 [.ref m, .ref o] h = some (.inl (some (.int 0)), zup h1 o (22, [.long y.toInt64])) := by
  simp (disch := first | exact znw_u | exact znw_i) only [zc_336, zs_336_0, zs_336_0n, zs_336_1, zs_336_2, zs_336_2n, zs_336_3, zs_336_6, zs_336_7, zs_336_8, zs_336_11, zs_336_11n, zs_336_12, zs_336_13, zs_336_14, zs_336_15, r, e, ho, zlg, zbk_v, zts_s, List.cons_append, List.nil_append]
theorem p_336e_4 (r : ∀ X : zR, zrc (h.1 m) 1 X = X) (e : zcall zP sv D 65 [.ref m] h = some (.inr 4, h1)) : zcall zP sv (D + 1) 336 [.ref m, .ref o] h = some (.inl (some (.int (nI 1))), h1) := by
  simp (disch := first | exact znw_u | exact znw_i) only [zc_336, zs_336_0, zs_336_0n, zs_336_1, zs_336_2, zs_336_2n, zs_336_3, zs_336_6, zs_336_7, zs_336_8, zs_336_11, zs_336_11n, zs_336_12, zs_336_13, zs_336_14, zs_336_15, r, e, zbk_x, List.cons_append, List.nil_append]
  rfl
theorem p_337v {y : Int32} {l : Int64} (r : ∀ X : zR, zrc (h.1 m) 1 X = X) (e : zcall zP sv D 67 [.ref m] h = some (.inl (some (.int y)), h1)) (ho : h1.1 o = (22, [.long l])) : zcall zP sv (D + 1) 337 [.ref m, .ref o] h = some (.inl (some (.int 0)), zup h1 o (22, [.long y.toInt64])) := by
  simp (disch := first | exact znw_u | exact znw_i) only [zc_337, zs_337_0, zs_337_0n, zs_337_1, zs_337_2, zs_337_2n, zs_337_3, zs_337_6, zs_337_7, zs_337_8, zs_337_11, zs_337_11n, zs_337_12, zs_337_13, zs_337_14, zs_337_15, r, e, ho, zlg, zbk_v, zts_s, List.cons_append, List.nil_append]
theorem p_337e_0 (r : ∀ X : zR, zrc (h.1 m) 1 X = X) (e : zcall zP sv D 67 [.ref m] h = some (.inr 0, h1)) : zcall zP sv (D + 1) 337 [.ref m, .ref o] h = some (.inl (some (.int (nI 1))), h1) := by
  simp (disch := first | exact znw_u | exact znw_i) only [zc_337, zs_337_0, zs_337_0n, zs_337_1, zs_337_2, zs_337_2n, zs_337_3, zs_337_6, zs_337_7, zs_337_8, zs_337_11, zs_337_11n, zs_337_12, zs_337_13, zs_337_14, zs_337_15, r, e, zbk_x, List.cons_append, List.nil_append]
  rfl
theorem p_338v {y : Int32} {l : Int64} (r : ∀ X : zR, zrc (h.1 m) 1 X = X) (e : zcall zP sv D 69 [.ref m] h = some (.inl (some (.int y)), h1)) (ho : h1.1 o = (22, [.long l])) : zcall zP sv (D + 1) 338 [.ref m, .ref o] h = some (.inl (some (.int 0)), zup h1 o (22, [.long y.toInt64])) := by
  simp (disch := first | exact znw_u | exact znw_i) only [zc_338, zs_338_0, zs_338_0n, zs_338_1, zs_338_2, zs_338_2n, zs_338_3, zs_338_6, zs_338_7, zs_338_8, zs_338_11, zs_338_11n, zs_338_12, zs_338_13, zs_338_14, zs_338_15, r, e, ho, zlg, zbk_v, zts_s, List.cons_append, List.nil_append]
theorem p_338e_0 (r : ∀ X : zR, zrc (h.1 m) 1 X = X) (e : zcall zP sv D 69 [.ref m] h = some (.inr 0, h1)) : zcall zP sv (D + 1) 338 [.ref m, .ref o] h = some (.inl (some (.int (nI 1))), h1) := by
  simp (disch := first | exact znw_u | exact znw_i) only [zc_338, zs_338_0, zs_338_0n, zs_338_1, zs_338_2, zs_338_2n, zs_338_3, zs_338_6, zs_338_7, zs_338_8, zs_338_11, zs_338_11n, zs_338_12, zs_338_13, zs_338_14, zs_338_15, r, e, zbk_x, List.cons_append, List.nil_append]
  rfl
end ZSG

section ZSH
variable {sv : Nat → Value} {m b : Nat} {xs : List Int32}
theorem zMdl_fr {h h' : zH} {m : Nat} {w : yW} {th : Int32} (hM : zMdl h m w th) (hf : ∀ q, m ≤ q → q < m + 18 → h'.1 q = h.1 q) : zMdl h' m w th := by
  obtain ⟨F, f31, hw, ⟨T, hT⟩, hr, hA⟩ := hM
  exact ⟨F, f31, zWk_cg hw ((hf m (by omega) (by omega)).trans hw.1) (fun q hq => hf q (by omega) (by omega)), ⟨T, zTab_cg hT (hf _ (by omega) (by omega))⟩, zRst_cg hr ⟨rfl, rfl, rfl, rfl, rfl⟩ (hf _ (by omega) (by omega)) (hf _ (by omega) (by omega)) (hf _ (by omega) (by omega)) (hf _ (by omega) (by omega)), hA⟩
theorem zCls_fr {h h' : zH} {m : Nat} {w : yW} (hc : zCls h m w) (hf : ∀ q, q < m + 119 ∨ m + 139 ≤ q → h'.1 q = h.1 q) (hs : h'.2.1 = h.2.1) : zCls h' m w := by
  refine zCls_q hc (fun q a b => hf q (by omega)) (fun q a b => hf q (by omega)) ⟨fun q a b => hf q (by omega), by omega⟩ (zScr_cg hc.2.2.2.2.2.2.1 (fun q a b => hf q (by omega)) (fun q a b => hf q (by omega)))
def yRg (A : yA) : Prop := ∃ M, 1 ≤ M ∧ M ≤ 4 ∧ A.2.2.1 = nI M
def yWok (w : yW) : Prop := yRg (ycur w) ∧ yRg (ykep w) ∧ (∀ A, A ∈ yhis w → yRg A) ∧ (w.2.1 = -1 ∨ ¬ w.2.1 < 0)
def zDm (sv : Nat → Value) (h : zH) (m : Nat) : Prop := ∃ (a1 a2 : Nat) (O T : List Int32), sv 1 = .ref a1 ∧ sv 2 = .ref a2 ∧ h.1 a1 = (27, O.map Value.int) ∧ h.1 a2 = (27, T.map Value.int) ∧ O.length = 100 ∧ T.length = 100 ∧ a1 < m ∧ a2 < m
/-- the class stands for w1, the model for w but for its output o2 -/
def zTj (sv : Nat → Value) (h : zH) (m b : Nat) (xs : List Int32) (w1 w : yW) (o2 : List Int32) (th : Int32) : Prop := zCls h m w1 ∧ zMdl h (m + 119) (yso w o2) th ∧ yWok w1 ∧ (∀ x, x ∈ o2 → ychr x) ∧ (b < m ∧ h.1 b = (28, xs.map Value.int)) ∧ (∃ l, h.1 (m + 137) = (22, [.long l])) ∧ (∃ l, h.1 (m + 138) = (23, [.double l])) ∧ zDm sv h m
def zTi (sv : Nat → Value) (h : zH) (m b : Nat) (xs : List Int32) (w : yW) (o2 : List Int32) (th : Int32) : Prop := zTj sv h m b xs w w o2 th
theorem zDm_g {h : zH} (hD : zDm sv h m) (hm : m ≤ h.2.1) : zDg sv h := by
  obtain ⟨a1, a2, O, T, s1, s2, g1, g2, o1, t1, b1, b2⟩ := hD
  exact ⟨a1, a2, O, T, s1, s2, g1, g2, o1, t1, by omega, by omega⟩
def zgr (h h' : zH) : Prop := h.2.1 ≤ h'.2.1 ∧ h'.2.1 ≤ h.2.1 + 1000 ∧ h'.2.2 ≤ h.2.2 + 2000
variable {h : zH} {w w1 : yW} {o2 : List Int32} {th : Int32}
theorem zTj_c {h1 : zH} {N K : Nat} (T : zTi sv h m b xs w o2 th) (hc : zCls h1 m w1) (hf : zfy m N K h h1) (hk : yWok w1) : zTj sv h1 m b xs w1 w o2 th := by
  obtain ⟨t1, t2, t3, t4, ⟨t5, t6⟩, ⟨l, t7⟩, ⟨l', t8⟩, a1, a2, O, T', s1, s2, g1, g2, o1, u1, b1, b2⟩ := T
  exact ⟨hc, zMdl_fr t2 (fun q q1 q2 => hf.1 q (by omega)), hk, t4, ⟨t5, by rw [hf.1 _ (by omega), t6]⟩, ⟨l, by rw [hf.1 _ (by omega), t7]⟩, ⟨l', by rw [hf.1 _ (by omega), t8]⟩, a1, a2, O, T', s1, s2, by rw [hf.1 _ (by omega), g1], by rw [hf.1 _ (by omega), g2], o1, u1, b1, b2⟩
theorem zTj_o {h1 : zH} {y : Int64} (T : zTj sv h1 m b xs w1 w o2 th) : zTj sv (zup h1 (m + 137) (22, [.long y])) m b xs w1 w o2 th := by
  obtain ⟨t1, t2, t3, t4, ⟨t5, t6⟩, ⟨l, t7⟩, ⟨l', t8⟩, a1, a2, O, T', s1, s2, g1, g2, o1, u1, b1, b2⟩ := T
  exact ⟨zCls_fr t1 (fun q hq => zup_ne (by omega)) rfl, zMdl_fr t2 (fun q q1 q2 => zup_ne (by omega)), t3, t4, ⟨t5, by rw [zup_ne (by omega), t6]⟩, ⟨y, zup_at⟩, ⟨l', by rw [zup_ne (by omega), t8]⟩, a1, a2, O, T', s1, s2, by rw [zup_ne (by omega), g1], by rw [zup_ne (by omega), g2], o1, u1, b1, b2⟩
theorem zTj_d {h1 : zH} {y : UInt64} (T : zTj sv h1 m b xs w1 w o2 th) : zTj sv (zup h1 (m + 138) (23, [.double y])) m b xs w1 w o2 th := by
  obtain ⟨t1, t2, t3, t4, ⟨t5, t6⟩, ⟨l, t7⟩, ⟨l', t8⟩, a1, a2, O, T', s1, s2, g1, g2, o1, u1, b1, b2⟩ := T
  exact ⟨zCls_fr t1 (fun q hq => zup_ne (by omega)) rfl, zMdl_fr t2 (fun q q1 q2 => zup_ne (by omega)), t3, t4, ⟨t5, by rw [zup_ne (by omega), t6]⟩, ⟨l, by rw [zup_ne (by omega), t7]⟩, ⟨y, zup_at⟩, a1, a2, O, T', s1, s2, by rw [zup_ne (by omega), g1], by rw [zup_ne (by omega), g2], o1, u1, b1, b2⟩
theorem zTj_m {h1 h2 : zH} {o3 : List Int32} {th' : Int32} (T : zTj sv h1 m b xs w1 w o2 th) (hM : zMdl h2 (m + 119) (yso w1 o3) th') (hf : zmw (m + 119) h1 h2) (ho : ∀ x, x ∈ o3 → ychr x) : zTi sv h2 m b xs w1 o3 th' := by
  obtain ⟨t1, t2, t3, t4, ⟨t5, t6⟩, ⟨l, t7⟩, ⟨l', t8⟩, a1, a2, O, T', s1, s2, g1, g2, o1, u1, b1, b2⟩ := T
  exact ⟨zCls_fr t1 (fun q hq => hf.1 q (by omega)) (by rw [hf.2]), hM, t3, ho, ⟨t5, by rw [hf.1 _ (by omega), t6]⟩, ⟨l, by rw [hf.1 _ (by omega), t7]⟩, ⟨l', by rw [hf.1 _ (by omega), t8]⟩, a1, a2, O, T', s1, s2, by rw [hf.1 _ (by omega), g1], by rw [hf.1 _ (by omega), g2], o1, u1, b1, b2⟩
/-- one call of the law: the helper's answer k in A, the model's answer bv in Bf; what the two stand for then; the out arrays -/
def zSt (sv : Nat → Value) (m b : Nat) (xs : List Int32) (h : zH) (A : zR) (Bf : zH → zR) (k : Nat) (bv : Value) (w1 : yW) (o3 : List Int32) (th' : Int32) (out : Nat × Value) : Prop := ∃ h1 h2, A = some (.inl (some (.int (nI k))), h1) ∧ (∀ X : zR, zrc (h1.1 (m + 119)) 13 X = X) ∧ h1.1 b = (28, xs.map Value.int) ∧ Bf h1 = some (.inl (some bv), h2) ∧ zTi sv h2 m b xs w1 o3 th' ∧ zgr h h2 ∧ (k = 0 → (out.1 = 22 → h2.1 (m + 137) = (22, [out.2])) ∧ (out.1 = 23 → h2.1 (m + 138) = (23, [out.2])))
theorem zgr_of {N K : Nat} {h1 h2 : zH} (hf : zfy m N K h h1) (h2f : h2.2 = h1.2) (hN : N ≤ 1000) (hK : K ≤ 2000) : zgr h h2 := ⟨by rw [h2f]; exact hf.2.1, by rw [h2f]; have := hf.2.2.1; omega, by rw [h2f]; have := hf.2.2.2; omega⟩
/-- a call that answers a number -/
theorem zst_v {A rc : zR} {Bf : zH → zR} {N K : Nat} {y : Int64} {v : Value} {bv : Value} {o3 : List Int32} {th' : Int32} (T : zTi sv h m b xs w o2 th) (hC : ∃ h1, rc = some (.inl (some v), h1) ∧ zCls h1 m w1 ∧ zfy m N K h h1) (hN : N ≤ 1000) (hK : K ≤ 2000) (hk : yWok w1) (hP : ∀ h1 l, rc = some (.inl (some v), h1) → h1.1 (m + 137) = (22, [.long l]) → A = some (.inl (some (.int 0)), zup h1 (m + 137) (22, [.long y]))) (hM : ∀ h1, zMdl h1 (m + 119) (yso w o2) th → ∃ h2, Bf h1 = some (.inl (some bv), h2) ∧ zMdl h2 (m + 119) (yso w1 o3) th' ∧ zmw (m + 119) h1 h2) (ho : ∀ x, x ∈ o3 → ychr x) : zSt sv m b xs h A Bf 0 bv w1 o3 th' (22, .long y) := by
  obtain ⟨h1, e1, c1, f1⟩ := hC
  have T1 := zTj_c T c1 f1 hk
  obtain ⟨l, t7⟩ := T1.2.2.2.2.2.1
  have e2 := hP h1 l e1 t7
  have T2 := zTj_o (y := y) T1
  obtain ⟨h2, e3, m2, f2⟩ := hM _ T2.2.1
  exact ⟨_, h2, by rw [e2, nI_0], fun X => zMdl_rc T2.2.1, T2.2.2.2.2.1.2, e3, zTj_m T2 m2 f2 ho, zgr_of f1 f2.2 hN hK, fun _ => ⟨fun _ => by rw [f2.1 _ (by omega), zup_at], fun q => by cases q⟩⟩
theorem zst_d {A rc : zR} {Bf : zH → zR} {N K : Nat} {y : UInt64} {v : Value} {bv : Value} {o3 : List Int32} {th' : Int32} (T : zTi sv h m b xs w o2 th) (hC : ∃ h1, rc = some (.inl (some v), h1) ∧ zCls h1 m w1 ∧ zfy m N K h h1) (hN : N ≤ 1000) (hK : K ≤ 2000) (hk : yWok w1) (hP : ∀ h1 l, rc = some (.inl (some v), h1) → h1.1 (m + 138) = (23, [.double l]) → A = some (.inl (some (.int 0)), zup h1 (m + 138) (23, [.double y]))) (hM : ∀ h1, zMdl h1 (m + 119) (yso w o2) th → ∃ h2, Bf h1 = some (.inl (some bv), h2) ∧ zMdl h2 (m + 119) (yso w1 o3) th' ∧ zmw (m + 119) h1 h2) (ho : ∀ x, x ∈ o3 → ychr x) : zSt sv m b xs h A Bf 0 bv w1 o3 th' (23, .double y) := by
  obtain ⟨h1, e1, c1, f1⟩ := hC
  have T1 := zTj_c T c1 f1 hk
  obtain ⟨l, t7⟩ := T1.2.2.2.2.2.2.1
  have e2 := hP h1 l e1 t7
  have T2 := zTj_d (y := y) T1
  obtain ⟨h2, e3, m2, f2⟩ := hM _ T2.2.1
  exact ⟨_, h2, by rw [e2, nI_0], fun X => zMdl_rc T2.2.1, T2.2.2.2.2.1.2, e3, zTj_m T2 m2 f2 ho, zgr_of f1 f2.2 hN hK, fun _ => ⟨fun q => (by cases q), fun _ => by rw [f2.1 _ (by omega), zup_at]⟩⟩
/-- a call that throws -/
theorem zst_e {A rc : zR} {Bf : zH → zR} {N K E k : Nat} {bv : Value} {o3 : List Int32} {th' : Int32} {out : Nat × Value} (T : zTi sv h m b xs w o2 th) (hC : ∃ h1, rc = some (.inr E, h1) ∧ zCls h1 m w1 ∧ zfy m N K h h1) (hN : N ≤ 1000) (hK : K ≤ 2000) (hk : yWok w1) (hP : ∀ h1, rc = some (.inr E, h1) → A = some (.inl (some (.int (nI k))), h1)) (hk0 : 0 < k) (hM : ∀ h1, zMdl h1 (m + 119) (yso w o2) th → ∃ h2, Bf h1 = some (.inl (some bv), h2) ∧ zMdl h2 (m + 119) (yso w1 o3) th' ∧ zmw (m + 119) h1 h2) (ho : ∀ x, x ∈ o3 → ychr x) : zSt sv m b xs h A Bf k bv w1 o3 th' out := by
  obtain ⟨h1, e1, c1, f1⟩ := hC
  have T1 := zTj_c T c1 f1 hk
  have e2 := hP h1 e1
  obtain ⟨h2, e3, m2, f2⟩ := hM _ T1.2.1
  exact ⟨_, h2, e2, fun X => zMdl_rc T1.2.1, T1.2.2.2.2.1.2, e3, zTj_m T1 m2 f2 ho, zgr_of f1 f2.2 hN hK, fun z => absurd z (by omega)⟩
/-- a call without a helper -/
def zSq (sv : Nat → Value) (m b : Nat) (xs : List Int32) (h : zH) (A : zR) (Bf : zH → zR) (v bv : Value) (w1 : yW) (o3 : List Int32) (th' : Int32) : Prop := ∃ h1 h2, A = some (.inl (some v), h1) ∧ (∀ X : zR, zrc (h1.1 (m + 119)) 13 X = X) ∧ h1.1 b = (28, xs.map Value.int) ∧ Bf h1 = some (.inl (some bv), h2) ∧ zTi sv h2 m b xs w1 o3 th' ∧ zgr h h2
theorem zsq_v {A : zR} {Bf : zH → zR} {N K : Nat} {v bv : Value} {o3 : List Int32} {th' : Int32} (T : zTi sv h m b xs w o2 th) (hC : ∃ h1, A = some (.inl (some v), h1) ∧ zCls h1 m w1 ∧ zfy m N K h h1) (hN : N ≤ 1000) (hK : K ≤ 2000) (hk : yWok w1) (hM : ∀ h1, zMdl h1 (m + 119) (yso w o2) th → ∃ h2, Bf h1 = some (.inl (some bv), h2) ∧ zMdl h2 (m + 119) (yso w1 o3) th' ∧ zmw (m + 119) h1 h2) (ho : ∀ x, x ∈ o3 → ychr x) : zSq sv m b xs h A Bf v bv w1 o3 th' := by
  obtain ⟨h1, e1, c1, f1⟩ := hC
  have T1 := zTj_c T c1 f1 hk
  obtain ⟨h2, e3, m2, f2⟩ := hM _ T1.2.1
  exact ⟨_, h2, e1, fun X => zMdl_rc T1.2.1, T1.2.2.2.2.1.2, e3, zTj_m T1 m2 f2 ho, zgr_of f1 f2.2 hN hK⟩
theorem zEnd_y {r : zR} {N K : Nat} {o : zO} (hc : zCls h m w) (he : zEnd h m r N K o w1) : ∃ h1, r = some (o, h1) ∧ zCls h1 m w1 ∧ zfy m N K h h1 := by
  obtain ⟨h', e, c, f⟩ := he
  exact ⟨h', e, c, zfy_fx hc.1 f⟩
theorem yWok_w {w2 : yW} (hk : yWok w) (h1 : yRg (ycur w2)) (h2 : ykep w2 = ykep w) (h3 : yhis w2 = (ycur w :: yhis w).take 8) (h4 : w2.2.1 = w.2.1) : yWok w2 := by
  refine ⟨h1, by rw [h2]; exact hk.2.1, fun A hA => ?_, by rw [h4]; exact hk.2.2.2⟩
  rw [h3] at hA
  have := List.mem_of_mem_take hA
  rw [List.mem_cons] at this
  rcases this with rfl | z
  · exact hk.1
  · exact hk.2.2.1 A z
end ZSH

section ZHQ
theorem yis_or {k : Int32} (h : yis k = true) : k = nI 43 ∨ k = nI 45 ∨ k = nI 42 := by
  unfold yis at h
  rw [Bool.or_eq_true, Bool.or_eq_true] at h
  rcases h with (h | h) | h
  · exact Or.inl (of_decide_eq_true h)
  · exact Or.inr (Or.inl (of_decide_eq_true h))
  · exact Or.inr (Or.inr (of_decide_eq_true h))
theorem ytw_ind {P : yT → Prop} (hc : ∀ n v, P (.inner n (nI 99) v .leaf .leaf)) (hx : ∀ n v, ylet v = true → P (.inner n (nI 118) v .leaf .leaf)) (hu : ∀ n l, ytw l = true → P l → P (.inner n (nI 110) 0 l .leaf)) (hb : ∀ n k l r, (k = nI 43 ∨ k = nI 45 ∨ k = nI 42) → ytw l = true → ytw r = true → P l → P r → P (.inner n k 0 l r)) : ∀ t : yT, ytw t = true → P t
  | .leaf, h => by cases h
  | .inner n k v l r, h => by
    rcases ytw_el h with ⟨rfl, rfl, rfl⟩ | ⟨rfl, hv, rfl, rfl⟩ | ⟨rfl, rfl, hl, rfl⟩ | ⟨hk, rfl, hl, hr⟩
    · exact hc n v
    · exact hx n v hv
    · exact hu n l hl (ytw_ind hc hx hu hb l hl)
    · exact hb n k l r (yis_or hk) hl hr (ytw_ind hc hx hu hb l hl) (ytw_ind hc hx hu hb r hr)
theorem yfo_i {f : Int32 → Int32 → Int32 → Int32 → Int32} {n : Nat} {k v : Int32} {l r : yT} : yfo f (.inner n k v l r) = f k v (yfo f l) (yfo f r) := rfl
theorem yfo_l {f : Int32 → Int32 → Int32 → Int32 → Int32} : yfo f .leaf = 0 := rfl
theorem wnn : ((2 : Nat) = 0) = False ∧ ((2 : Nat) = 1) = False ∧ ((3 : Nat) = 0) = False ∧ ((3 : Nat) = 1) = False ∧ ((3 : Nat) = 2) = False := by
  and_intros <;> simp
theorem yk4 : (nI 99 = nI 118) = False ∧ (nI 99 = nI 110) = False ∧ (nI 99 = nI 42) = False ∧ (nI 99 = nI 43) = False ∧ (nI 99 = nI 45) = False ∧ (nI 118 = nI 99) = False ∧ (nI 118 = nI 110) = False ∧ (nI 118 = nI 42) = False ∧ (nI 118 = nI 43) = False ∧ (nI 118 = nI 45) = False ∧ (nI 110 = nI 99) = False ∧ (nI 110 = nI 118) = False ∧ (nI 110 = nI 42) = False ∧ (nI 110 = nI 43) = False ∧ (nI 110 = nI 45) = False ∧ (nI 43 = nI 99) = False ∧ (nI 43 = nI 118) = False ∧ (nI 43 = nI 110) = False ∧ (nI 43 = nI 42) = False ∧ (nI 43 = nI 45) = False ∧ (nI 45 = nI 99) = False ∧ (nI 45 = nI 118) = False ∧ (nI 45 = nI 110) = False ∧ (nI 45 = nI 42) = False ∧ (nI 45 = nI 43) = False ∧ (nI 42 = nI 99) = False ∧ (nI 42 = nI 118) = False ∧ (nI 42 = nI 110) = False ∧ (nI 42 = nI 43) = False ∧ (nI 42 = nI 45) = False := by
  and_intros <;> decide +kernel
theorem ymx_nn {a b : Nat} (ha : a < 2 ^ 31) (hb : b < 2 ^ 31) : ymx (nI a) (nI b) = nI (max a b) := by
  unfold ymx
  by_cases h : a < b
  · rw [if_pos (nI_lt h hb), Nat.max_eq_right (by omega)]
  · rw [if_neg (nI_nlt (by omega) ha), Nat.max_eq_left (by omega)]
theorem ymx_00 : ymx 0 0 = 0 := by decide +kernel
/-- a term's degree -/
def ydg : yT → Nat
  | .leaf => 0
  | .inner _ k _ l r => if k = nI 118 then 1 else if k = nI 42 then ydg l + ydg r else max (ydg l) (ydg r)
theorem ydg_le : ∀ t : yT, ydg t ≤ ysz t
  | .leaf => Nat.le_refl _
  | .inner _ k v l r => by
    have h1 := ydg_le l
    have h2 := ydg_le r
    unfold ydg ysz
    split
    · omega
    · split <;> omega
theorem ydg_i {n : Nat} {k v : Int32} {l r : yT} : ydg (.inner n k v l r) = if k = nI 118 then 1 else if k = nI 42 then ydg l + ydg r else max (ydg l) (ydg r) := rfl
theorem ydg_l : ydg .leaf = 0 := rfl
theorem ydg_P {t : yT} (ht : ytw t = true) (hz : ysz t < 1000) : yfo yfP t = nI (ydg t) ∧ ∀ N, yfo (ymf 2 N) t = nI (ydg t) := by
  revert hz
  refine ytw_ind (P := fun t => ysz t < 1000 → yfo yfP t = nI (ydg t) ∧ ∀ N, yfo (ymf 2 N) t = nI (ydg t)) ?_ ?_ ?_ ?_ t ht
  · intro n v _
    simp only [yfo_i, yfo_l, yfP, ymf, ydg_i, ydg_l, yk4, if_true, if_false, wnn, ymx_00]
    exact ⟨nI_0.symm, fun N => nI_0.symm⟩
  · intro n v _ _
    simp only [yfo_i, yfo_l, yfP, ymf, ydg_i, ydg_l, yk4, if_true, if_false, wnn]
    exact ⟨trivial, fun N => trivial⟩
  · intro n l hl ih hz
    have hz' : ysz l + 0 + 1 < 1000 := hz
    have hd := ydg_le l
    obtain ⟨i1, i2⟩ := ih (by omega)
    simp only [yfo_i, yfo_l, yfP, ymf, ydg_i, ydg_l, yk4, if_true, if_false, wnn, i1, i2]
    have e : ymx (nI (ydg l)) 0 = nI (max (ydg l) 0) := by
      have := ymx_nn (a := ydg l) (b := 0) (by omega) (by decide)
      rwa [nI_0] at this
    exact ⟨e, fun N => by rw [Nat.max_zero]⟩
  · intro n k l r hk hl hr ihl ihr hz
    have hz' : ysz l + ysz r + 1 < 1000 := hz
    have hd := ydg_le l
    have hd2 := ydg_le r
    obtain ⟨i1, i2⟩ := ihl (by omega)
    obtain ⟨j1, j2⟩ := ihr (by omega)
    rcases hk with rfl | rfl | rfl
    all_goals simp only [yfo_i, yfo_l, yfP, ymf, ydg_i, ydg_l, yk4, if_true, if_false, wnn, i1, i2, j1, j2, nI_add]
    · exact ⟨ymx_nn (by omega) (by omega), fun N => ymx_nn (by omega) (by omega)⟩
    · exact ⟨ymx_nn (by omega) (by omega), fun N => ymx_nn (by omega) (by omega)⟩
    · exact ⟨trivial, fun N => trivial⟩
theorem yNow_v {N : List Int32} {A : yA} (hN : yNow N A) (hA : yAok A) {v : Int32} (hv : ylet v = true) : yg A.2.1 (v - nI 97) = yg N (nI 3 + (v - nI 97)) := by
  unfold ylet at hv
  rw [Bool.and_eq_true] at hv
  obtain ⟨j, hj, rfl⟩ := zvar_of (of_decide_eq_true hv.1) (of_decide_eq_true hv.2)
  have e1 : A.2.1[j]? = some (A.2.1[j]'(by rw [hA.2.2]; exact hj)) := List.getElem?_eq_getElem _
  rw [nI_sub', nI_add, yg_e (by omega) e1, yg_e (by omega) (hN.2.2.2.2.1 j _ e1)]
theorem yval_N {N : List Int32} {A : yA} (hN : yNow N A) (hA : yAok A) {t : yT} (ht : ytw t = true) : yfo (ymf 0 N) t = yfo (yfR A.2.1) t := by
  refine ytw_ind (P := fun t => yfo (ymf 0 N) t = yfo (yfR A.2.1) t) ?_ ?_ ?_ ?_ t ht
  · intro n v
    simp only [yfo_i, yfo_l, yfR, ymf, if_true]
  · intro n v hv
    simp only [yfo_i, yfo_l, yfR, ymf, yk4, if_true, if_false, yNow_v hN hA hv]
  · intro n l hl ih
    simp only [yfo_i, yfo_l, yfR, ymf, yop, yk4, if_true, if_false, ih]
  · intro n k l r hk hl hr ihl ihr
    rcases hk with rfl | rfl | rfl <;> simp only [yfo_i, yfo_l, yfR, ymf, yop, yk4, if_true, if_false, ihl, ihr]
theorem yreg_D {N : List Int32} {t : yT} (ht : ytw t = true) : yfo (ymf 3 N) t = yfo yfD t := by
  refine ytw_ind (P := fun t => yfo (ymf 3 N) t = yfo yfD t) ?_ ?_ ?_ ?_ t ht
  · intro n v
    simp only [yfo_i, yfo_l, yfD, yis, ymf, yk4, wnn, if_true, if_false, decide_false, Bool.or_self, Bool.false_eq_true]
  · intro n v hv
    simp only [yfo_i, yfo_l, yfD, yis, ymf, yk4, wnn, if_true, if_false, decide_false, Bool.or_self, Bool.false_eq_true]
  · intro n l hl ih
    simp only [yfo_i, yfo_l, yfD, yis, ymf, yk4, wnn, if_true, if_false, ih, decide_false, Bool.or_self, Bool.false_eq_true]
  · intro n k l r hk hl hr ihl ihr
    rcases hk with rfl | rfl | rfl <;> simp only [yfo_i, yfo_l, yfD, yis, ymf, yk4, wnn, if_true, if_false, ihl, ihr, decide_true, decide_false, Bool.or_true, Bool.or_false]
theorem yreg_n {t : yT} (ht : ytw t = true) (hz : ysz t < 1000) : ∃ n, n ≤ ysz t ∧ yfo yfD t = nI n ∧ yfo yfO t = nI n := by
  revert hz
  refine ytw_ind (P := fun t => ysz t < 1000 → ∃ n, n ≤ ysz t ∧ yfo yfD t = nI n ∧ yfo yfO t = nI n) ?_ ?_ ?_ ?_ t ht
  · intro n v hz
    refine ⟨1, Nat.le_refl _, ?_, ?_⟩ <;> simp only [yfo_i, yfo_l, yfD, yfO, yis, yk4, if_false, decide_false, Bool.or_self, Bool.false_eq_true]
  · intro n v hv hz
    refine ⟨1, Nat.le_refl _, ?_, ?_⟩ <;> simp only [yfo_i, yfo_l, yfD, yfO, yis, yk4, if_false, decide_false, Bool.or_self, Bool.false_eq_true]
  · intro n l hl ih hz
    have hz' : ysz l + 0 + 1 < 1000 := hz
    obtain ⟨x, x1, x2, x3⟩ := ih (by omega)
    refine ⟨x, by show x ≤ ysz l + 0 + 1; omega, ?_, ?_⟩ <;> simp only [yfo_i, yfo_l, yfD, yfO, yis, yk4, if_true, if_false, x2, x3, decide_false, Bool.or_self, Bool.false_eq_true]
  · intro n k l r hk hl hr ihl ihr hz
    have hz' : ysz l + ysz r + 1 < 1000 := hz
    obtain ⟨x, x1, x2, x3⟩ := ihl (by omega)
    obtain ⟨y, y1, y2, y3⟩ := ihr (by omega)
    have hy : yis k = true := by rcases hk with rfl | rfl | rfl <;> decide +kernel
    have e1 : ymx (nI y) (nI x + nI 1) = nI (max y (x + 1)) := by rw [nI_add]; exact ymx_nn (by omega) (by omega)
    have e2 : ymx (nI x) (nI y + nI 1) = nI (max x (y + 1)) := by rw [nI_add]; exact ymx_nn (by omega) (by omega)
    have e3 : ymx (nI x) (nI y) = nI (max x y) := ymx_nn (by omega) (by omega)
    refine ⟨if x = y then x + 1 else max x y, by show _ ≤ ysz l + ysz r + 1; split <;> omega, ?_, ?_⟩
    · show (if yis k = true then (if yfo yfD l = yfo yfD r then yfo yfD l + nI 1 else ymx (yfo yfD l) (yfo yfD r)) else _) = _
      rw [if_pos hy, x2, y2, e3, nI_add]
      by_cases h : x = y
      · subst h; rw [if_pos rfl, if_pos rfl]
      · rw [if_neg (fun q => h (by
          have := congrArg Int32.toInt q
          rw [nI_toInt (by omega), nI_toInt (by omega)] at this
          omega)), if_neg h]
    · show (if yis k = true then (if ymx (yfo yfO r) (yfo yfO l + nI 1) < ymx (yfo yfO l) (yfo yfO r + nI 1) then ymx (yfo yfO r) (yfo yfO l + nI 1) else ymx (yfo yfO l) (yfo yfO r + nI 1)) else _) = _
      rw [if_pos hy, x3, y3, e1, e2]
      by_cases h : max y (x + 1) < max x (y + 1)
      · rw [if_pos (nI_lt h (by omega))]
        congr 1
        split <;> omega
      · rw [if_neg (nI_nlt (by omega) (by omega))]
        congr 1
        split <;> omega
theorem yoc_ct {c : Int32} : ∀ (t : yT) (off : Nat), yoc c (ypo off t) = yct (c - nI 97) (ypr t)
  | .leaf, _ => rfl
  | .inner n k v l r, off => by
    have i1 := yoc_ct (c := c) l off
    have i2 := yoc_ct (c := c) r (off + ysz l)
    unfold yoc yct at i1 i2 ⊢
    unfold ypo ypr
    simp only [List.countP_append, List.countP_cons, List.countP_nil, i1, i2, Nat.zero_add]
    congr 1
    show (if decide (k = nI 118 ∧ v = c) = true then 1 else 0) = if (decide (k = nI 118) && decide (yva k v = c - nI 97)) = true then 1 else 0
    by_cases hk : k = nI 118
    · subst hk
      rw [yva_v]
      have e : (v - nI 97 = c - nI 97) = (v = c) := by
        apply propext
        constructor
        · intro q
          have := congrArg (· + nI 97) q
          simpa using this
        · intro q; rw [q]
      simp only [true_and, decide_true, Bool.true_and, e]
    · simp only [hk, false_and, decide_false, Bool.false_and]
theorem yvr_vc : ∀ (t : yT) (off : Nat), yvr (ypo off t) = !decide (yvc (ypr t) = 0)
  | .leaf, _ => rfl
  | .inner n k v l r, off => by
    have i1 := yvr_vc l off
    have i2 := yvr_vc r (off + ysz l)
    unfold yvr yvc at i1 i2 ⊢
    unfold ypo ypr
    rw [List.any_append, List.any_append, List.countP_cons, List.countP_append, i1, i2]
    obtain ⟨x, hx⟩ : ∃ x, x = List.countP (fun q : Int32 × Int32 => decide (q.1 = nI 118)) (ypr l) := ⟨_, rfl⟩
    obtain ⟨y, hy⟩ : ∃ y, y = List.countP (fun q : Int32 × Int32 => decide (q.1 = nI 118)) (ypr r) := ⟨_, rfl⟩
    rw [← hx, ← hy]
    show ((!decide (x = 0) || !decide (y = 0)) || (decide (k = nI 118) || false)) = !decide (x + y + (if decide (k = nI 118) = true then 1 else 0) = 0)
    by_cases hk : k = nI 118 <;> by_cases h1 : x = 0 <;> by_cases h2 : y = 0 <;> simp [hk, h1, h2]
theorem yeq_i {n n' : Nat} {k v k' v' : Int32} {l r l' r' : yT} : yeq (.inner n k v l r) (.inner n' k' v' l' r') = (decide (k = k') && decide (v = v') && yeq l l' && yeq r r') := rfl
theorem ypr_i {n : Nat} {k v : Int32} {l r : yT} : ypr (.inner n k v l r) = (k, yva k v) :: (ypr l ++ ypr r) := rfl
theorem yva_ij {k v v' : Int32} (h : yva k v = yva k v') : v = v' := by
  unfold yva at h
  split at h
  · have := congrArg (· + nI 97) h
    simpa using this
  · exact h
theorem yeq_refl : ∀ t : yT, yeq t t = true
  | .leaf => rfl
  | .inner n k v l r => by rw [yeq_i, yeq_refl l, yeq_refl r, decide_eq_true rfl, decide_eq_true rfl]; rfl
theorem yeq_ypr : ∀ t u : yT, yeq t u = true → ypr t = ypr u
  | .leaf, .leaf, _ => rfl
  | .leaf, .inner _ _ _ _ _, h => by cases h
  | .inner _ _ _ _ _, .leaf, h => by cases h
  | .inner n k v l r, .inner n' k' v' l' r', h => by
    rw [yeq_i, Bool.and_eq_true, Bool.and_eq_true, Bool.and_eq_true] at h
    obtain ⟨⟨⟨h1, h2⟩, h3⟩, h4⟩ := h
    rw [ypr_i, ypr_i, of_decide_eq_true h1, of_decide_eq_true h2, yeq_ypr l l' h3, yeq_ypr r r' h4]
theorem ypr_inj {t : yT} (ht : ytw t = true) : ∀ (u : yT) (a b : yP), ytw u = true → ypr t ++ a = ypr u ++ b → yeq t u = true ∧ a = b := by
  refine ytw_ind (P := fun t => ∀ (u : yT) (a b : yP), ytw u = true → ypr t ++ a = ypr u ++ b → yeq t u = true ∧ a = b) ?_ ?_ ?_ ?_ t ht
  · intro n v u a b hu h
    match u, hu, h with
    | .leaf, hu, h => cases hu
    | .inner n' k' v' l' r', hu, h =>
      rw [ypr_i, ypr_i, List.cons_append, List.cons_append, List.cons.injEq, Prod.mk.injEq] at h
      obtain ⟨⟨rfl, h2⟩, h3⟩ := h
      obtain rfl := yva_ij h2
      rcases ytw_el hu with ⟨_, rfl, rfl⟩ | ⟨q, _⟩ | ⟨q, _⟩ | ⟨q, _⟩
      · exact ⟨by rw [yeq_i, decide_eq_true rfl, decide_eq_true rfl]; rfl, h3⟩
      · exact absurd q (by decide +kernel)
      · exact absurd q (by decide +kernel)
      · exact absurd q (by decide +kernel)
  · intro n v hv u a b hu h
    match u, hu, h with
    | .leaf, hu, h => cases hu
    | .inner n' k' v' l' r', hu, h =>
      rw [ypr_i, ypr_i, List.cons_append, List.cons_append, List.cons.injEq, Prod.mk.injEq] at h
      obtain ⟨⟨rfl, h2⟩, h3⟩ := h
      obtain rfl := yva_ij h2
      rcases ytw_el hu with ⟨q, _⟩ | ⟨_, _, rfl, rfl⟩ | ⟨q, _⟩ | ⟨q, _⟩
      · exact absurd q (by decide +kernel)
      · exact ⟨by rw [yeq_i, decide_eq_true rfl, decide_eq_true rfl]; rfl, h3⟩
      · exact absurd q (by decide +kernel)
      · exact absurd q (by decide +kernel)
  · intro n l hl ih u a b hu h
    match u, hu, h with
    | .leaf, hu, h => cases hu
    | .inner n' k' v' l' r', hu, h =>
      rw [ypr_i, ypr_i, List.cons_append, List.cons_append, List.cons.injEq, Prod.mk.injEq] at h
      obtain ⟨⟨rfl, h2⟩, h3⟩ := h
      obtain rfl := yva_ij h2
      rcases ytw_el hu with ⟨q, _⟩ | ⟨q, _⟩ | ⟨_, _, hl', rfl⟩ | ⟨q, _⟩
      · exact absurd q (by decide +kernel)
      · exact absurd q (by decide +kernel)
      · rw [List.append_assoc, List.append_assoc] at h3
        obtain ⟨i1, i2⟩ := ih l' _ _ hl' h3
        exact ⟨by rw [yeq_i, decide_eq_true rfl, decide_eq_true rfl, i1]; rfl, i2⟩
      · exact absurd q (by decide +kernel)
  · intro n k l r hk hl hr ihl ihr u a b hu h
    match u, hu, h with
    | .leaf, hu, h => cases hu
    | .inner n' k' v' l' r', hu, h =>
      rw [ypr_i, ypr_i, List.cons_append, List.cons_append, List.cons.injEq, Prod.mk.injEq] at h
      obtain ⟨⟨rfl, h2⟩, h3⟩ := h
      obtain rfl := yva_ij h2
      have hy : yis k = true := by rcases hk with rfl | rfl | rfl <;> decide +kernel
      have hn := yis_ne hy
      rcases ytw_el hu with ⟨q, _⟩ | ⟨q, _⟩ | ⟨q, _⟩ | ⟨_, _, hl', hr'⟩
      · exact absurd q hn.1
      · exact absurd q hn.2.1
      · exact absurd q hn.2.2.1
      · rw [List.append_assoc, List.append_assoc] at h3
        obtain ⟨i1, i2⟩ := ihl l' _ _ hl' h3
        obtain ⟨j1, j2⟩ := ihr r' _ _ hr' i2
        exact ⟨by rw [yeq_i, decide_eq_true rfl, decide_eq_true rfl, i1, j1]; rfl, j2⟩
theorem yeq_pr {t u : yT} (ht : ytw t = true) (hu : ytw u = true) : yeq t u = decide (ypr t = ypr u) := by
  cases h : yeq t u with
  | true => rw [yeq_ypr t u h, decide_eq_true rfl]
  | false =>
    symm
    refine decide_eq_false fun q => ?_
    have := (ypr_inj ht u [] [] hu (by rw [q])).1
    rw [h] at this
    cases this
theorem ysl_i {f : Int32 → Int32 → Int32 → Int32 → Int32} {c : Int32} {n : Nat} {k v : Int32} {l r : yT} : ysl f c (.inner n k v l r) = yst1 c k v (ysl f c l) (ysl f c r) (yfo f l) (yfo f r) := rfl
theorem ysl2_i {T : List Int32} {c : Int32} {n : Nat} {k v : Int32} {l r : yT} : ysl2 T c (.inner n k v l r) = yst2 c k v (ysl2 T c l) (ysl2 T c r) (yfo (yfR T) l) (yfo (yfR T) r) := rfl
theorem ysub_e {v c : Int32} : (v - nI 97 = c - nI 97) = (v = c) := by
  apply propext
  constructor
  · intro q
    have := congrArg (· + nI 97) q
    simpa using this
  · intro q; rw [q]
theorem yslo_e {N : List Int32} {A : yA} (hN : yNow N A) (hA : yAok A) {c : Int32} {t : yT} (ht : ytw t = true) : ysl (ymf 0 N) (c - nI 97) t = ysl2 A.2.1 c t := by
  refine ytw_ind (P := fun t => ysl (ymf 0 N) (c - nI 97) t = ysl2 A.2.1 c t) ?_ ?_ ?_ ?_ t ht
  · intro n v
    simp only [ysl_i, ysl2_i, yst1, yst2, yk4, if_true, if_false, true_or, false_and]
  · intro n v hv
    simp only [ysl_i, ysl2_i, yst1, yst2, yva_v, ysub_e, yk4, if_true, if_false, or_true, true_and]
  · intro n l hl ih
    simp only [ysl_i, ysl2_i, yst1, yst2, yop, ih, yk4, if_true, if_false, or_self]
  · intro n k l r hk hl hr ihl ihr
    rcases hk with rfl | rfl | rfl <;> simp only [ysl_i, ysl2_i, yst1, yst2, yop, ihl, ihr, yval_N hN hA hl, yval_N hN hA hr, yk4, if_true, if_false, or_self]
theorem yder_i {c : Int32} {n : Nat} {k v : Int32} {l r : yT} : yder c (.inner n k v l r) = if k = nI 110 then ymk (nI 110) 0 (yder c l) .leaf else if k = nI 43 ∨ k = nI 45 then ymk k 0 (yder c l) (yder c r) else if k = nI 42 then ymk (nI 43) 0 (ymk (nI 42) 0 (yder c l) r) (ymk (nI 42) 0 l (yder c r)) else ycn (if k = nI 118 ∧ v = c then nI 1 else 0) := rfl
theorem yfo_mk {f : Int32 → Int32 → Int32 → Int32 → Int32} {k v : Int32} {l r : yT} : yfo f (ymk k v l r) = f k v (yfo f l) (yfo f r) := rfl
theorem yfo_cn {T : List Int32} {x : Int32} : yfo (yfR T) (ycn x) = x := by
  show yfR T (nI 99) x 0 0 = x
  unfold yfR
  rw [if_pos rfl]
/-- the derivative's value is the slope -/
theorem yder_v {T : List Int32} {c : Int32} {t : yT} (ht : ytw t = true) : yfo (yfR T) (yder c t) = ysl2 T c t := by
  refine ytw_ind (P := fun t => yfo (yfR T) (yder c t) = ysl2 T c t) ?_ ?_ ?_ ?_ t ht
  · intro n v
    simp only [yder_i, ysl2_i, yst2, yk4, if_true, if_false, or_self, true_or, false_and, yfo_cn]
  · intro n v hv
    simp only [yder_i, ysl2_i, yst2, yk4, if_true, if_false, or_self, or_true, true_and, yfo_cn]
  · intro n l hl ih
    simp only [yder_i, ysl2_i, yst2, yop, yfR, yk4, if_true, if_false, or_self, yfo_mk, ih]
  · intro n k l r hk hl hr ihl ihr
    rcases hk with rfl | rfl | rfl <;> simp only [yder_i, ysl2_i, yst2, yop, yfR, yk4, if_true, if_false, or_self, or_true, true_or, yfo_mk, ihl, ihr]
end ZHQ

section ZHR
/-- a term's parts in post-order -/
def ytp : yT → List yT
  | .leaf => []
  | .inner n k v l r => ytp l ++ ytp r ++ [.inner n k v l r]
theorem ytp_i {n : Nat} {k v : Int32} {l r : yT} : ytp (.inner n k v l r) = ytp l ++ ytp r ++ [.inner n k v l r] := rfl
theorem ytp_l : ytp .leaf = [] := rfl
theorem ytp_len : ∀ t : yT, (ytp t).length = ysz t
  | .leaf => rfl
  | .inner n k v l r => by
    rw [ytp_i, List.length_append, List.length_append, ytp_len l, ytp_len r]
    rfl
def ylw (t : yT) : Prop := t = .leaf ∨ ytw t = true
theorem ytw_ch {n : Nat} {k v : Int32} {l r : yT} (h : ytw (.inner n k v l r) = true) : n = 0 ∧ ylw l ∧ ylw r := by
  refine ⟨?_, ?_⟩
  · have h' : (decide (n = 0) && _) = true := h
    rw [Bool.and_eq_true] at h'
    exact of_decide_eq_true h'.1
  · rcases ytw_el h with ⟨_, q1, q2⟩ | ⟨_, _, q1, q2⟩ | ⟨_, _, q1, q2⟩ | ⟨_, _, q1, q2⟩
    · exact ⟨Or.inl q1, Or.inl q2⟩
    · exact ⟨Or.inl q1, Or.inl q2⟩
    · exact ⟨Or.inr q1, Or.inl q2⟩
    · exact ⟨Or.inr q1, Or.inr q2⟩
theorem yri_ch {off : Nat} : ∀ t : yT, ych (off + ysz t) (yri off t)
  | .leaf => Or.inl rfl
  | .inner n k v l r => Or.inr ⟨off + ysz l + ysz r, by show _ < off + (ysz l + ysz r + 1); omega, rfl⟩
theorem ytm_rt {t : yT} {ms : List yN} (hw : ywf ms) (hl : ms.length + ysz t < 2 ^ 31) (ht : ylw t) : ygt (ytm (ms ++ ypo ms.length t)) (yri ms.length t) = t := by
  rcases ht with rfl | ht
  · exact ygt_n
  · exact (ytm_ypo t ms hw hl).2 ht
theorem ytm_tp : ∀ (t : yT) (ms : List yN), ywf ms → ms.length + ysz t < 2 ^ 31 → ylw t → ytm (ms ++ ypo ms.length t) = ytm ms ++ ytp t
  | .leaf, ms, hw, hl, ht => by
    show ytm (ms ++ []) = ytm ms ++ []
    rw [List.append_nil, List.append_nil]
  | .inner n k v l r, ms, hw, hl, ht => by
    rcases ht with q | ht
    · cases q
    · obtain ⟨hn, gl, gr⟩ := ytw_ch ht
      subst hn
      have hz : ms.length + (ysz l + ysz r + 1) < 2 ^ 31 := hl
      have w1 := (ytm_ypo l ms hw (by omega)).1
      have l1 : (ms ++ ypo ms.length l).length = ms.length + ysz l := by rw [List.length_append, ypo_len]
      have i1 := ytm_tp l ms hw (by omega) gl
      have w2 := (ytm_ypo r _ w1 (by rw [l1]; omega)).1
      have i2 := ytm_tp r _ w1 (by rw [l1]; omega) gr
      have r1 := ytm_rt hw (by omega) gl
      have r2 := ytm_rt w1 (by rw [l1]; omega) gr
      have e : ms ++ ypo ms.length (.inner 0 k v l r) = ((ms ++ ypo ms.length l) ++ ypo (ms ++ ypo ms.length l).length r) ++ [(k, v, yri ms.length l, yri (ms ++ ypo ms.length l).length r)] := by
        rw [l1]
        show ms ++ (ypo ms.length l ++ ypo (ms.length + ysz l) r ++ [(k, v, yri ms.length l, yri (ms.length + ysz l) r)]) = _
        rw [← List.append_assoc, ← List.append_assoc]
      rw [e, ytm_snoc]
      dsimp only
      rw [r2, ygt_pre (by rw [l1]; omega) (by rw [l1]; exact yri_ch l), r1, i2, i1, ytp_i]
      show _ = ytm ms ++ (ytp l ++ ytp r ++ [ymk k v l r])
      simp only [List.append_assoc]
theorem ypo_tp {t : yT} (hl : ysz t < 2 ^ 31) (ht : ytw t = true) : ytm (ypo 0 t) = ytp t := by
  have := ytm_tp t [] ywf_nil (by show 0 + _ < _; omega) (Or.inr ht)
  exact this
/-- a list's members, each counted once -/
def yrc {α : Type} [DecidableEq α] : List α → Nat
  | [] => 0
  | a :: r => yrc r + (if a ∈ r then 0 else 1)
theorem yrc_c {α : Type} [DecidableEq α] {a : α} {r : List α} : yrc (a :: r) = yrc r + (if a ∈ r then 0 else 1) := rfl
theorem yrc_p {α : Type} [DecidableEq α] {a b : List α} (h : a.Perm b) : yrc a = yrc b := by
  induction h with
  | nil => rfl
  | @cons x l1 l2 h ih =>
    rw [yrc_c, yrc_c, ih]
    congr 1
    have := h.mem_iff (a := x)
    by_cases c : x ∈ l1
    · rw [if_pos c, if_pos (this.mp c)]
    · rw [if_neg c, if_neg (fun q => c (this.mpr q))]
  | swap x y l =>
    rw [yrc_c, yrc_c, yrc_c, yrc_c]
    by_cases e : x = y
    · subst e; rfl
    · have e' : ¬ y = x := fun q => e q.symm
      have m1 : (y ∈ x :: l) = (y ∈ l) := by rw [List.mem_cons]; simp [e']
      have m2 : (x ∈ y :: l) = (x ∈ l) := by rw [List.mem_cons]; simp [e]
      simp only [m1, m2]
      omega
  | trans _ _ h1 h2 => exact h1.trans h2
theorem yts_i {s : Nat} {k v : Int32} {l r : yT} : yts (.inner s k v l r) = .inner s k v l r :: (yts l ++ yts r) := rfl
theorem yts_tp : ∀ t : yT, (yts t).Perm (ytp t)
  | .leaf => List.Perm.refl _
  | .inner s k v l r => by
    rw [yts_i, ytp_i]
    refine List.Perm.trans (List.Perm.cons _ (List.Perm.append (yts_tp l) (yts_tp r))) ?_
    exact (List.perm_append_singleton _ _).symm
theorem yfsr_t {Q : List yP} {b : Option yP} : ∀ n j, yfsr Q b j n = true ↔ ∀ i, j ≤ i → i < j + n → Q[i]? ≠ b
  | 0, j => by
    constructor
    · intro _ i h1 h2; omega
    · intro _; rfl
  | n + 1, j => by
    show ((!decide (Q[j]? = b)) && yfsr Q b (j + 1) n) = true ↔ _
    rw [Bool.and_eq_true, yfsr_t n (j + 1)]
    constructor
    · rintro ⟨h1, h2⟩ i h3 h4
      by_cases e : i = j
      · subst e
        intro q
        rw [decide_eq_true q] at h1
        cases h1
      · exact h2 i (by omega) (by omega)
    · intro h
      refine ⟨?_, fun i h1 h2 => h i (by omega) (by omega)⟩
      rw [decide_eq_false (h j (Nat.le_refl _) (by omega))]
      rfl
theorem ymem_tk {α : Type} {Q : List α} {a : α} {n : Nat} : a ∈ Q.take n ↔ ∃ i, i < n ∧ Q[i]? = some a := by
  rw [List.mem_iff_getElem?]
  constructor
  · rintro ⟨i, h⟩
    rw [List.getElem?_take] at h
    split at h
    · exact ⟨i, by assumption, h⟩
    · cases h
  · rintro ⟨i, h1, h2⟩
    exact ⟨i, by rw [List.getElem?_take, if_pos h1]; exact h2⟩
theorem yfst_t {Q : List yP} {k : Nat} {b : yP} (hb : Q[k]? = some b) : yfst Q k = !decide (b ∈ Q.take k) := by
  have h : yfst Q k = true ↔ ¬ b ∈ Q.take k := by
    unfold yfst
    rw [yfsr_t, hb, ymem_tk]
    constructor
    · rintro h ⟨i, h1, h2⟩
      exact h i (by omega) (by omega) h2
    · intro h i _ h2 h3
      exact h ⟨i, by omega, h3⟩
  by_cases c : b ∈ Q.take k
  · rw [decide_eq_true c]
    cases e : yfst Q k with
    | true => exact absurd c (h.mp e)
    | false => rfl
  · rw [decide_eq_false c]
    exact h.mpr c
theorem ytk_s {α : Type} {Q : List α} {n : Nat} {b : α} (hb : Q[n]? = some b) : (Q.take (n + 1)).reverse = b :: (Q.take n).reverse := by
  rw [List.take_add_one, hb]
  simp
theorem ynd_rc {Q : List yP} : ∀ n, n ≤ Q.length → ynd Q n = yrc (Q.take n).reverse
  | 0, _ => by rw [List.take_zero]; rfl
  | n + 1, h => by
    have hb : Q[n]? = some (Q[n]'(by omega)) := List.getElem?_eq_getElem _
    rw [ynd_s, ynd_rc n (by omega), ytk_s hb, yrc_c, yfst_t hb]
    congr 1
    by_cases c : Q[n] ∈ Q.take n
    · rw [decide_eq_true c, if_pos (List.mem_reverse.mpr c)]; rfl
    · rw [decide_eq_false c, if_neg (fun q => c (List.mem_reverse.mp q))]; rfl
theorem ynd_r {Q : List yP} : ynd Q Q.length = yrc Q := by
  rw [ynd_rc _ (Nat.le_refl _), List.take_length]
  exact yrc_p (List.reverse_perm Q)
end ZHR

section ZHS
theorem yeq_eq : ∀ a b : yT, yeq a b = true → ylw a → ylw b → a = b
  | .leaf, .leaf, _, _, _ => rfl
  | .leaf, .inner _ _ _ _ _, h, _, _ => by cases h
  | .inner _ _ _ _ _, .leaf, h, _, _ => by cases h
  | .inner n k v l r, .inner n' k' v' l' r', h, ha, hb => by
    rcases ha with q | ha
    · cases q
    rcases hb with q | hb
    · cases q
    obtain ⟨a1, a2, a3⟩ := ytw_ch ha
    obtain ⟨b1, b2, b3⟩ := ytw_ch hb
    rw [yeq_i, Bool.and_eq_true, Bool.and_eq_true, Bool.and_eq_true] at h
    obtain ⟨⟨⟨h1, h2⟩, h3⟩, h4⟩ := h
    rw [a1, b1, of_decide_eq_true h1, of_decide_eq_true h2, yeq_eq l l' h3 a2 b2, yeq_eq r r' h4 a3 b3]
theorem ypr_e {a b : yT} (ha : ytw a = true) (hb : ytw b = true) (h : ypr a = ypr b) : a = b :=
  yeq_eq a b (by rw [yeq_pr ha hb, decide_eq_true h]) (Or.inr ha) (Or.inr hb)
theorem ytp_tw : ∀ (t : yT), ylw t → ∀ x, x ∈ ytp t → ytw x = true
  | .leaf, _, x, hx => absurd hx List.not_mem_nil
  | .inner n k v l r, h, x, hx => by
    rcases h with q | h
    · cases q
    · obtain ⟨_, h2, h3⟩ := ytw_ch h
      rw [ytp_i, List.mem_append, List.mem_append, List.mem_singleton] at hx
      rcases hx with (hx | hx) | rfl
      · exact ytp_tw l h2 x hx
      · exact ytp_tw r h3 x hx
      · exact h
theorem yfq_t {ns : List yN} {b : yT} : ∀ n j, yfq ns b j n = true ↔ ∀ i, j ≤ i → i < j + n → yeq b (ygt (ytm ns) (nI i)) = false
  | 0, j => by
    constructor
    · intro _ i h1 h2; omega
    · intro _; rfl
  | n + 1, j => by
    show ((!yeq b (ygt (ytm ns) (nI j))) && yfq ns b (j + 1) n) = true ↔ _
    rw [Bool.and_eq_true, yfq_t n (j + 1)]
    constructor
    · rintro ⟨h1, h2⟩ i h3 h4
      by_cases e : i = j
      · subst e
        simpa using h1
      · exact h2 i (by omega) (by omega)
    · intro h
      refine ⟨?_, fun i h1 h2 => h i (by omega) (by omega)⟩
      rw [h j (Nat.le_refl _) (by omega)]
      rfl
theorem yfq_st {ns : List yN} (hw : ∀ x, x ∈ ytm ns → ytw x = true) (hl : ns.length < 2 ^ 31) {k : Nat} (hk : k < ns.length) : yfq ns (ygt (ytm ns) (nI k)) 0 k = yfst ((ytm ns).map ypr) k := by
  have hg : ∀ i, i < ns.length → ∃ a, (ytm ns)[i]? = some a ∧ ygt (ytm ns) (nI i) = a ∧ ytw a = true := by
    intro i hi
    have e : (ytm ns)[i]? = some ((ytm ns)[i]'(by rw [ytm_l]; exact hi)) := List.getElem?_eq_getElem _
    refine ⟨_, e, ?_, hw _ (List.mem_of_getElem? e)⟩
    rw [ygt_k (by omega), List.getD_eq_getElem?_getD, e]
    rfl
  obtain ⟨b, b1, b2, b3⟩ := hg k hk
  have hb : ((ytm ns).map ypr)[k]? = some (ypr b) := by rw [List.getElem?_map, b1]; rfl
  have h : yfq ns (ygt (ytm ns) (nI k)) 0 k = true ↔ yfst ((ytm ns).map ypr) k = true := by
    unfold yfst
    rw [yfq_t, yfsr_t, b2, hb]
    constructor
    · intro h i h1 h2 h3
      obtain ⟨a, a1, a2, a3⟩ := hg i (by omega)
      have h4 := h i h1 h2
      rw [a2, yeq_pr b3 a3] at h4
      rw [List.getElem?_map, a1] at h3
      exact of_decide_eq_false h4 (Option.some.inj h3).symm
    · intro h i h1 h2
      obtain ⟨a, a1, a2, a3⟩ := hg i (by omega)
      rw [a2, yeq_pr b3 a3]
      refine decide_eq_false fun q => h i h1 h2 ?_
      rw [List.getElem?_map, a1, q]
      rfl
  cases e1 : yfq ns (ygt (ytm ns) (nI k)) 0 k with
  | true => exact (h.mp e1).symm
  | false =>
    cases e2 : yfst ((ytm ns).map ypr) k with
    | false => rfl
    | true => rw [h.mpr e2] at e1; cases e1
theorem ynq_nd {ns : List yN} (hw : ∀ x, x ∈ ytm ns → ytw x = true) (hl : ns.length < 2 ^ 31) : ∀ n, n ≤ ns.length → ynq ns n = ynd ((ytm ns).map ypr) n
  | 0, _ => rfl
  | n + 1, h => by rw [ynq_s, ynd_s, ynq_nd hw hl n (by omega), yfq_st hw hl (by omega)]
/-- how many parts of a term differ -/
theorem yparts {t : yT} (ht : ytw t = true) (hz : ysz t < 2 ^ 31) : ynd ((yts t).map ypr) (ysz t) = yrc ((ytp t).map ypr) ∧ ynq (ypo 0 t) (ysz t) = yrc ((ytp t).map ypr) := by
  constructor
  · rw [show ysz t = ((yts t).map ypr).length by rw [List.length_map, yts_len], ynd_r]
    exact yrc_p ((yts_tp t).map ypr)
  · have e := ypo_tp hz ht
    rw [ynq_nd (by rw [e]; exact ytp_tw t (Or.inr ht)) (by rw [ypo_len]; exact hz) _ (by rw [ypo_len]; exact Nat.le_refl _), e]
    rw [show ysz t = ((ytp t).map ypr).length by rw [List.length_map, ytp_len], ynd_r]
end ZHS

section ZHT
/-- the numbered nodes stand for the parts met so far -/
def yNI (ps : List yN) (S : List yT) : Prop := ywf ps ∧ (∀ (m m' : Nat) (a : yT), (ytm ps)[m]? = some a → (ytm ps)[m']? = some a → m = m') ∧ (∀ a, a ∈ ytm ps ↔ a ∈ S) ∧ ps.length = yrc (S.map ypr) ∧ (∀ a, a ∈ S → ytw a = true) ∧ S.length ≤ 62
def yMp (ns ps : List yN) (B : List Int32) (i : Nat) : Prop := ∀ (j : Nat) (a : yT), j < i → (ytm ns)[j]? = some a → ∃ m, B[j]? = some (nI m) ∧ (ytm ps)[m]? = some a
theorem yrc_le {α : Type} [DecidableEq α] : ∀ l : List α, yrc l ≤ l.length
  | [] => Nat.le_refl _
  | a :: r => by
    have := yrc_le r
    rw [yrc_c, List.length_cons]
    split <;> omega
theorem yrc_sn {α : Type} [DecidableEq α] {l : List α} {a : α} : yrc (l ++ [a]) = yrc l + (if a ∈ l then 0 else 1) := by
  rw [yrc_p (List.perm_append_singleton a l), yrc_c]
theorem ykey {S : List yT} {b : yT} (hS : ∀ a, a ∈ S → ytw a = true) (hb : ytw b = true) : ypr b ∈ S.map ypr ↔ b ∈ S := by
  rw [List.mem_map]
  constructor
  · rintro ⟨a, h1, h2⟩
    rw [← ypr_e (hS a h1) hb h2]
    exact h1
  · intro h
    exact ⟨b, h, rfl⟩
theorem yfd_s {nd : yN} : ∀ (ps : List yN) (k m : Nat), yfd nd ps k = some m → ∃ j, m = k + j ∧ ps[j]? = some nd
  | [], k, m, h => by cases h
  | x :: r, k, m, h => by
    have h' : (if x = nd then some k else yfd nd r (k + 1)) = some m := h
    by_cases e : x = nd
    · rw [if_pos e] at h'
      cases h'
      exact ⟨0, rfl, by rw [e]; rfl⟩
    · rw [if_neg e] at h'
      obtain ⟨j, h1, h2⟩ := yfd_s r (k + 1) m h'
      exact ⟨j + 1, by omega, h2⟩
theorem yfd_n {nd : yN} : ∀ (ps : List yN) (k : Nat), yfd nd ps k = none → nd ∉ ps
  | [], k, h => List.not_mem_nil
  | x :: r, k, h => by
    have h' : (if x = nd then some k else yfd nd r (k + 1)) = none := h
    by_cases e : x = nd
    · rw [if_pos e] at h'
      cases h'
    · rw [if_neg e] at h'
      intro q
      rcases List.mem_cons.mp q with q | q
      · exact e q.symm
      · exact yfd_n r (k + 1) h' q
theorem ytm_mk {ps : List yN} (hw : ywf ps) {m : Nat} {a : yT} (h : (ytm ps)[m]? = some a) : ∃ q, ps[m]? = some q ∧ a = ymk q.1 q.2.1 (ygt (ytm ps) q.2.2.1) (ygt (ytm ps) q.2.2.2) ∧ ych m q.2.2.1 ∧ ych m q.2.2.2 := by
  have hm : m < ps.length := by
    have := (List.getElem?_eq_some_iff.mp h).1
    rwa [ytm_l] at this
  have e : ps[m]? = some ps[m] := List.getElem?_eq_getElem hm
  refine ⟨ps[m], e, ?_, hw.2 m _ e⟩
  have := ytm_at hw e
  rw [h] at this
  exact Option.some.inj this
/-- a number's part -/
theorem ygt_inj {ps : List yN} (hw : ywf ps) (hd : ∀ (m m' : Nat) (a : yT), (ytm ps)[m]? = some a → (ytm ps)[m']? = some a → m = m') {x y : Int32} (hx : ych ps.length x) (hy : ych ps.length y) (h : ygt (ytm ps) x = ygt (ytm ps) y) : x = y := by
  have hg : ∀ j, j < ps.length → ∃ a, (ytm ps)[j]? = some a ∧ ygt (ytm ps) (nI j) = a ∧ a ≠ .leaf := by
    intro j hj
    have e : (ytm ps)[j]? = some ((ytm ps)[j]'(by rw [ytm_l]; exact hj)) := List.getElem?_eq_getElem _
    obtain ⟨q, q1, q2, _⟩ := ytm_mk hw e
    refine ⟨_, e, ?_, ?_⟩
    · rw [ygt_k (by have := hw.1; omega), List.getD_eq_getElem?_getD, e]
      rfl
    · rw [q2]
      intro z
      cases z
  rcases hx with rfl | ⟨j, hj, rfl⟩ <;> rcases hy with rfl | ⟨j', hj', rfl⟩
  · rfl
  · obtain ⟨a, a1, a2, a3⟩ := hg j' hj'
    rw [ygt_n, a2] at h
    exact absurd h.symm a3
  · obtain ⟨a, a1, a2, a3⟩ := hg j hj
    rw [ygt_n, a2] at h
    exact absurd h a3
  · obtain ⟨a, a1, a2, _⟩ := hg j hj
    obtain ⟨b, b1, b2, _⟩ := hg j' hj'
    rw [a2, b2] at h
    subst h
    rw [hd j j' a a1 b1]
theorem yno_t {ns ps : List yN} {B : List Int32} {i : Nat} (hn : ns.length < 2 ^ 31) (hin : i ≤ ns.length) (hp : ps.length < 2 ^ 31) (hM : yMp ns ps B i) {x : Int32} (hx : ych i x) : ych ps.length (ynof B x) ∧ ygt (ytm ps) (ynof B x) = ygt (ytm ns) x := by
  rcases hx with rfl | ⟨j, hj, rfl⟩
  · unfold ynof
    rw [if_pos rfl, ygt_n, ygt_n]
    exact ⟨Or.inl rfl, rfl⟩
  · have e : (ytm ns)[j]? = some ((ytm ns)[j]'(by rw [ytm_l]; omega)) := List.getElem?_eq_getElem _
    obtain ⟨m, m1, m2⟩ := hM j _ hj e
    have hm : m < ps.length := by
      have := (List.getElem?_eq_some_iff.mp m2).1
      rwa [ytm_l] at this
    have hne : ¬ nI j = -1 := fun z => by
      have h0 : ¬ nI j < 0 := nI_pos (by omega)
      rw [z] at h0
      exact h0 (by decide)
    unfold ynof
    rw [if_neg hne, yg_e (by omega) m1]
    refine ⟨Or.inr ⟨m, hm, rfl⟩, ?_⟩
    rw [ygt_k (by omega), ygt_k (by omega), List.getD_eq_getElem?_getD, List.getD_eq_getElem?_getD, m2, e]
theorem yinc_st {ns ps : List yN} {B : List Int32} {S : List yT} {i : Nat} {nd : yN} (hw : ywf ns) (hall : ∀ a, a ∈ ytm ns → ytw a = true) (hi : ns[i]? = some nd) (hz : ns.length ≤ 31) (hB : B.length = 31) (hI : yNI ps S) (hM : yMp ns ps B i) (hS : S.length + 1 ≤ 62) : ∃ b, (ytm ns)[i]? = some b ∧ yNI (ynst ps (nd.1, nd.2.1, ynof B nd.2.2.1, ynof B nd.2.2.2)).2 (S ++ [b]) ∧ yMp ns (ynst ps (nd.1, nd.2.1, ynof B nd.2.2.1, ynof B nd.2.2.2)).2 (ys B (nI i) (ynst ps (nd.1, nd.2.1, ynof B nd.2.2.1, ynof B nd.2.2.2)).1) (i + 1) := by
  obtain ⟨w1, hd, hmem, hlen, hS2, hS3⟩ := hI
  have hin := (List.getElem?_eq_some_iff.mp hi).1
  obtain ⟨c1, c2⟩ := hw.2 i nd hi
  have hps : ps.length ≤ S.length := by
    have := yrc_le (S.map ypr)
    rw [List.length_map] at this
    omega
  obtain ⟨x1, x2⟩ := yno_t (by omega) (by omega) (by omega) hM c1
  obtain ⟨y1, y2⟩ := yno_t (by omega) (by omega) (by omega) hM c2
  have hb := ytm_at hw hi
  obtain ⟨b, hbe⟩ : ∃ b, b = ymk nd.1 nd.2.1 (ygt (ytm ns) nd.2.2.1) (ygt (ytm ns) nd.2.2.2) := ⟨_, rfl⟩
  rw [← hbe] at hb
  have hbw := hall b (List.mem_of_getElem? hb)
  refine ⟨b, hb, ?_⟩
  obtain ⟨X, hX⟩ : ∃ X, X = ynof B nd.2.2.1 := ⟨_, rfl⟩
  obtain ⟨Y, hY⟩ : ∃ Y, Y = ynof B nd.2.2.2 := ⟨_, rfl⟩
  rw [← hX] at x1 x2
  rw [← hY] at y1 y2
  rw [← hX, ← hY]
  have hS2' : ∀ a, a ∈ S ++ [b] → ytw a = true := by
    intro a ha
    rcases List.mem_append.mp ha with ha | ha
    · exact hS2 a ha
    · rw [List.mem_singleton] at ha
      rw [ha]; exact hbw
  have hS3' : (S ++ [b]).length ≤ 62 := by rw [List.length_append]; exact hS
  have hBi : ∀ v : Int32, (ys B (nI i) v)[i]? = some v := fun v => by
    rw [ys_k (by omega), List.getElem?_set_self (by omega)]
  have hBj : ∀ (v : Int32) (j : Nat), j < i → (ys B (nI i) v)[j]? = B[j]? := fun v j hj => by
    rw [ys_k (by omega), List.getElem?_set_ne (by omega)]
  have hold : ∀ (ps' : List yN) (v : Nat), (∀ (m : Nat) (a : yT), (ytm ps)[m]? = some a → (ytm ps')[m]? = some a) → (ytm ps')[v]? = some b → yMp ns ps' (ys B (nI i) (nI v)) (i + 1) := by
    intro ps' v h1 h2 j a hj ha
    by_cases e : j = i
    · subst e
      rw [hb] at ha
      cases ha
      exact ⟨v, hBi _, h2⟩
    · obtain ⟨m, m1, m2⟩ := hM j a (by omega) ha
      exact ⟨m, by rw [hBj _ j (by omega)]; exact m1, h1 m a m2⟩
  cases hf : yfd (nd.1, nd.2.1, X, Y) ps 0 with
  | some m =>
    have e1 : ynst ps (nd.1, nd.2.1, X, Y) = (nI m, ps) := by unfold ynst; rw [hf]
    rw [e1]
    obtain ⟨j, hj, hj2⟩ := yfd_s ps 0 m hf
    obtain rfl : j = m := by omega
    have hbm : (ytm ps)[j]? = some b := by
      rw [ytm_at w1 hj2, hbe]
      dsimp only
      rw [x2, y2]
    have hbS : b ∈ S := (hmem b).mp (List.mem_of_getElem? hbm)
    refine ⟨⟨w1, hd, fun a => ?_, ?_, hS2', hS3'⟩, hold ps j (fun m a h => h) hbm⟩
    · rw [hmem a, List.mem_append, List.mem_singleton]
      constructor
      · exact Or.inl
      · rintro (h | rfl)
        · exact h
        · exact hbS
    · rw [List.map_append, List.map_singleton, yrc_sn, if_pos ((ykey hS2 hbw).mpr hbS), hlen]
      rfl
  | none =>
    have e1 : ynst ps (nd.1, nd.2.1, X, Y) = (nI ps.length, ps ++ [(nd.1, nd.2.1, X, Y)]) := by
      unfold ynst
      rw [hf]
      show (if ps.length < 62 then _ else _) = _
      rw [if_pos (by omega)]
    rw [e1]
    have hnot : b ∉ ytm ps := by
      intro q
      obtain ⟨m, hm⟩ := List.mem_iff_getElem?.mp q
      obtain ⟨p, p1, p2, p3, p4⟩ := ytm_mk w1 hm
      rw [hbe] at p2
      unfold ymk at p2
      injection p2 with q0 q1 q2 q3 q4
      have hm2 : m < ps.length := (List.getElem?_eq_some_iff.mp p1).1
      rw [← x2] at q3
      rw [← y2] at q4
      have z3 := ygt_inj w1 hd x1 (ych_mono p3 (by omega)) q3
      have z4 := ygt_inj w1 hd y1 (ych_mono p4 (by omega)) q4
      refine yfd_n ps 0 hf ?_
      have : p = (nd.1, nd.2.1, X, Y) := by
        obtain ⟨pa, pb, pc, pd⟩ := p
        dsimp only at q1 q2 z3 z4 ⊢
        rw [q1, q2, z3, z4]
      rw [← this]
      exact List.mem_of_getElem? p1
    have hbS : b ∉ S := fun q => hnot ((hmem b).mpr q)
    have e2 : ytm (ps ++ [(nd.1, nd.2.1, X, Y)]) = ytm ps ++ [b] := by
      rw [ytm_snoc, hbe]
      dsimp only
      rw [x2, y2]
    have hlt : ∀ (m : Nat) (a : yT), (ytm ps)[m]? = some a → (ytm ps ++ [b])[m]? = some a := fun m a h => by
      rw [List.getElem?_append_left (List.getElem?_eq_some_iff.mp h).1]
      exact h
    have hbl : (ytm ps ++ [b])[ps.length]? = some b := by
      rw [List.getElem?_append_right (by rw [ytm_l]; exact Nat.le_refl _), ytm_l, Nat.sub_self]
      rfl
    have hcase : ∀ (m : Nat) (a : yT), (ytm ps ++ [b])[m]? = some a → ((ytm ps)[m]? = some a ∧ a ≠ b) ∨ (m = ps.length ∧ a = b) := by
      intro m a h
      by_cases c : m < ps.length
      · rw [List.getElem?_append_left (by rw [ytm_l]; exact c)] at h
        refine Or.inl ⟨h, fun q => hnot ?_⟩
        rw [← q]
        exact List.mem_of_getElem? h
      · have hm := (List.getElem?_eq_some_iff.mp h).1
        rw [List.length_append, ytm_l, List.length_singleton] at hm
        obtain rfl : m = ps.length := by omega
        rw [hbl] at h
        exact Or.inr ⟨rfl, (Option.some.inj h).symm⟩
    refine ⟨⟨ywf_snoc w1 x1 y1 (by omega), fun m m' a h1 h2 => ?_, fun a => ?_, ?_, hS2', hS3'⟩, hold _ ps.length (fun m a h => by rw [e2]; exact hlt m a h) (by rw [e2]; exact hbl)⟩
    · rw [e2] at h1 h2
      rcases hcase m a h1 with ⟨g1, g2⟩ | ⟨g1, g2⟩ <;> rcases hcase m' a h2 with ⟨g3, g4⟩ | ⟨g3, g4⟩
      · exact hd m m' a g1 g3
      · exact absurd g4 g2
      · exact absurd g2 g4
      · omega
    · rw [e2, List.mem_append, List.mem_append, hmem a]
    · rw [List.length_append, List.length_singleton, List.map_append, List.map_singleton, yrc_sn, if_neg (fun q => hbS ((ykey hS2 hbw).mp q)), hlen]
end ZHT

section ZHU
theorem yinc_iv {ns : List yN} (hw : ywf ns) (hall : ∀ a, a ∈ ytm ns → ytw a = true) (hz : ns.length ≤ 31) : ∀ (r : List yN) (i : Nat) (ps : List yN) (B : List Int32) (S : List yT), ns.drop i = r → i + r.length = ns.length → B.length = 31 → yNI ps S → yMp ns ps B i → S.length + r.length ≤ 62 → yNI (yinc r i (ps, B)).1 (S ++ (ytm ns).drop i) ∧ (yinc r i (ps, B)).2.length = 31
  | [], i, ps, B, S, hr, hi, hB, hI, hM, hS => by
    have : (ytm ns).drop i = [] := List.drop_eq_nil_of_le (by rw [ytm_l]; simp at hi; omega)
    rw [this, List.append_nil]
    exact ⟨hI, hB⟩
  | nd :: r, i, ps, B, S, hr, hi, hB, hI, hM, hS => by
    rw [List.length_cons] at hi hS
    have h0 : ns[i]? = some nd := by
      have := congrArg (fun l : List yN => l[0]?) hr
      simpa using this
    have hr' : ns.drop (i + 1) = r := by
      have := congrArg (fun l : List yN => l.drop 1) hr
      simpa using this
    obtain ⟨b, b1, b2, b3⟩ := yinc_st hw hall h0 hz hB hI hM (by omega)
    have e : (ytm ns).drop i = b :: (ytm ns).drop (i + 1) := by
      have hl := (List.getElem?_eq_some_iff.mp b1).1
      rw [List.drop_eq_getElem_cons hl]
      congr 1
      exact (List.getElem?_eq_some_iff.mp b1).2
    have := yinc_iv hw hall hz r (i + 1) _ (ys B (nI i) (ynst ps (nd.1, nd.2.1, ynof B nd.2.2.1, ynof B nd.2.2.2)).1) (S ++ [b]) hr' (by omega) (by rw [ys_len]; exact hB) b2 b3 (by rw [List.length_append, List.length_singleton]; omega)
    rw [List.append_assoc] at this
    rw [e]
    exact this
theorem yNI_0 : yNI [] [] := ⟨ywf_nil, fun m m' a h => (by cases h), fun a => Iff.rfl, rfl, fun a h => absurd h List.not_mem_nil, Nat.zero_le _⟩
theorem ypo_wf {t : yT} (hz : ysz t < 2 ^ 31) : ywf (ypo 0 t) := (ytm_ypo t [] ywf_nil (by show 0 + _ < _; omega)).1
theorem yinc_t {t : yT} {ps : List yN} {B : List Int32} {S : List yT} (ht : ytw t = true) (hz : ysz t ≤ 31) (hB : B.length = 31) (hI : yNI ps S) (hS : S.length + ysz t ≤ 62) : yNI (yinc (ypo 0 t) 0 (ps, B)).1 (S ++ ytp t) ∧ (yinc (ypo 0 t) 0 (ps, B)).2.length = 31 := by
  have e := ypo_tp (by omega : ysz t < 2 ^ 31) ht
  have := yinc_iv (ypo_wf (by omega)) (by rw [e]; exact ytp_tw t (Or.inr ht)) (by rw [ypo_len]; exact hz) (ypo 0 t) 0 ps B S rfl (by omega) hB hI (fun j a hj => absurd hj (by omega)) (by rw [ypo_len]; exact hS)
  rw [e] at this
  exact this
theorem yinc_1 {t : yT} {B : List Int32} (ht : ytw t = true) (hz : ysz t ≤ 31) (hB : B.length = 31) : (yinc (ypo 0 t) 0 ([], B)).1.length = yrc ((ytp t).map ypr) := by
  have := (yinc_t ht hz hB yNI_0 (by show 0 + _ ≤ _; omega)).1
  rw [this.2.2.2.1]
  rfl
theorem yinc_2 {t u : yT} {B : List Int32} (ht : ytw t = true) (hz : ysz t ≤ 31) (hu : ytw u = true) (hzu : ysz u ≤ 31) (hB : B.length = 31) : (yinc (ypo 0 u) 0 (yinc (ypo 0 t) 0 ([], B))).1.length = yrc ((ytp t ++ ytp u).map ypr) := by
  obtain ⟨h1, h2⟩ := yinc_t ht hz hB yNI_0 (by show 0 + _ ≤ _; omega)
  have hl : ([] ++ ytp t : List yT).length = ysz t := ytp_len t
  have := (yinc_t hu hzu h2 h1 (by rw [hl]; omega)).1
  rw [this.2.2.2.1]
  rfl
/-- members of the first list, each counted once, that the second has too -/
def yic {α : Type} [DecidableEq α] : List α → List α → Nat
  | [], _ => 0
  | a :: r, b => yic r b + (if a ∉ r ∧ a ∈ b then 1 else 0)
theorem yic_c {α : Type} [DecidableEq α] {a : α} {r b : List α} : yic (a :: r) b = yic r b + (if a ∉ r ∧ a ∈ b then 1 else 0) := rfl
theorem yic_a {α : Type} [DecidableEq α] {b : List α} : ∀ a : List α, yrc a + yrc b = yrc (a ++ b) + yic a b
  | [] => by show 0 + _ = yrc b + 0; omega
  | x :: r => by
    have ih := yic_a (b := b) r
    rw [List.cons_append, yrc_c, yrc_c, yic_c]
    have hm : (x ∈ r ++ b) = (x ∈ r ∨ x ∈ b) := by rw [List.mem_append]
    by_cases c1 : x ∈ r <;> by_cases c2 : x ∈ b <;> simp only [hm, c1, c2, true_or, or_true, or_self, not_true, not_false_eq_true, true_and, false_and, and_true, and_false, if_true, if_false] <;> omega
theorem yany_t {Q : List yP} {b : Option yP} : ∀ n j, yany Q b j n = true ↔ ∃ i, j ≤ i ∧ i < j + n ∧ b = Q[i]?
  | 0, j => by
    constructor
    · intro h; cases h
    · rintro ⟨i, h1, h2, _⟩; omega
  | n + 1, j => by
    show (decide (b = Q[j]?) || yany Q b (j + 1) n) = true ↔ _
    rw [Bool.or_eq_true, yany_t n (j + 1), decide_eq_true_eq]
    constructor
    · rintro (h | ⟨i, h1, h2, h3⟩)
      · exact ⟨j, Nat.le_refl _, by omega, h⟩
      · exact ⟨i, by omega, by omega, h3⟩
    · rintro ⟨i, h1, h2, h3⟩
      by_cases e : i = j
      · subst e; exact Or.inl h3
      · exact Or.inr ⟨i, by omega, by omega, h3⟩
theorem ycm_ic {A B : List yP} : ∀ n, n ≤ A.length → ycm (A ++ B) A.length n = yic (A.take n).reverse B
  | 0, _ => by rw [List.take_zero]; rfl
  | n + 1, h => by
    have hb : A[n]? = some (A[n]'(by omega)) := List.getElem?_eq_getElem _
    have hb2 : (A ++ B)[n]? = some (A[n]'(by omega)) := by rw [List.getElem?_append_left (by omega)]; exact hb
    have ht : (A ++ B).take n = A.take n := List.take_append_of_le_length (by omega)
    rw [ycm_s, ycm_ic n (by omega), ytk_s hb, yic_c, yfst_t hb2, ht]
    congr 1
    have hany : yany (A ++ B) (A ++ B)[n]? A.length ((A ++ B).length - A.length) = true ↔ A[n] ∈ B := by
      rw [yany_t, hb2, List.length_append, Nat.add_sub_cancel_left, List.mem_iff_getElem?]
      constructor
      · rintro ⟨i, h1, h2, h3⟩
        rw [List.getElem?_append_right h1] at h3
        exact ⟨i - A.length, h3.symm⟩
      · rintro ⟨j, hj⟩
        refine ⟨A.length + j, by omega, ?_, ?_⟩
        · have := (List.getElem?_eq_some_iff.mp hj).1
          omega
        · rw [List.getElem?_append_right (by omega), Nat.add_sub_cancel_left, hj]
    have m : (A[n] ∈ (A.take n).reverse) = (A[n] ∈ A.take n) := propext List.mem_reverse
    simp only [m]
    by_cases c2 : A[n] ∈ B
    · rw [hany.mpr c2]
      by_cases c1 : A[n] ∈ A.take n
      · simp only [c1, c2, decide_true, Bool.not_true, Bool.and_false, Bool.false_eq_true, not_true, false_and, if_false]
      · simp only [c1, c2, decide_false, Bool.not_false, Bool.and_self, not_false_eq_true, and_self, if_true]
    · have : yany (A ++ B) (A ++ B)[n]? A.length ((A ++ B).length - A.length) = false := by
        cases e : yany (A ++ B) (A ++ B)[n]? A.length ((A ++ B).length - A.length) with
        | false => rfl
        | true => exact absurd (hany.mp e) c2
      rw [this]
      simp only [c2, Bool.false_and, Bool.false_eq_true, and_false, if_false]
theorem yic_p {α : Type} [DecidableEq α] {a b c : List α} (h : a.Perm b) (hc : yrc a + yrc c = yrc (a ++ c) + yic a c) : yic a c = yic b c := by
  have h1 := yic_a (b := c) b
  have h2 := yrc_p h
  have h3 := yrc_p (h.append_right c)
  omega
theorem ycommon {t u : yT} {B0 B1 : List Int32} (ht : ytw t = true) (hz : ysz t ≤ 31) (hu : ytw u = true) (hzu : ysz u ≤ 31) (h0 : B0.length = 31) (h1 : B1.length = 31) : nI (yinc (ypo 0 t) 0 ([], B1)).1.length + nI (yinc (ypo 0 u) 0 ([], B0)).1.length - nI (yinc (ypo 0 u) 0 (yinc (ypo 0 t) 0 ([], B1))).1.length = nI (ycm ((yts t ++ yts u).map ypr) (ysz t) (ysz t)) := by
  rw [yinc_1 ht hz h1, yinc_1 hu hzu h0, yinc_2 ht hz hu hzu h1, nI_add]
  have e1 : ysz t = ((yts t).map ypr).length := by rw [List.length_map, yts_len]
  have e2 : ycm ((yts t ++ yts u).map ypr) (ysz t) (ysz t) = yic ((yts t).map ypr) ((yts u).map ypr) := by
    rw [List.map_append, e1, ycm_ic _ (Nat.le_refl _), List.take_length]
    exact yic_p (List.reverse_perm _) (yic_a _)
  rw [e2]
  have p1 := yrc_p ((yts_tp t).map ypr)
  have p2 := yrc_p ((yts_tp u).map ypr)
  have p3 := yrc_p (((yts_tp t).append (yts_tp u)).map ypr)
  rw [List.map_append] at p3
  have k := yic_a (b := (yts u).map ypr) ((yts t).map ypr)
  rw [show yrc ((ytp t).map ypr) + yrc ((ytp u).map ypr) = yrc ((ytp t ++ ytp u).map ypr) + yic ((yts t).map ypr) ((yts u).map ypr) by rw [← p1, ← p2, ← p3]; exact k]
  exact nI_sub'
end ZHU

section ZHV
def yk3 (P P' : List Int32) (b j : Nat) : Prop := P'.length = 11 ∧ (∀ x, x < b → P'[x]? = P[x]?) ∧ (∀ s, s < j → P'[4 + s]? = P[4 + s]?)
theorem yk3_tr {P P' P'' : List Int32} {b j b' j' : Nat} (h1 : yk3 P P' b j) (h2 : yk3 P' P'' b' j') (hb : b ≤ b') (hj : j ≤ j') : yk3 P P'' b j :=
  ⟨h2.1, fun x hx => (h2.2.1 x (by omega)).trans (h1.2.1 x hx), fun s hs => (h2.2.2 s (by omega)).trans (h1.2.2 s hs)⟩
theorem yk3_b {P : List Int32} {b j : Nat} {v : Int32} (hP : P.length = 11) (hb : b < 4) : yk3 P (P.set b v) b j ∧ (P.set b v)[b]? = some v :=
  ⟨⟨by rw [List.length_set]; exact hP, fun x hx => List.getElem?_set_ne (by omega), fun s hs => List.getElem?_set_ne (by omega)⟩, List.getElem?_set_self (by omega)⟩
theorem yk3_s {P : List Int32} {b j : Nat} {v : Int32} (hP : P.length = 11) (hb : b ≤ 4) (hj : 4 + j < 11) : yk3 P (P.set (4 + j) v) b j ∧ (P.set (4 + j) v)[4 + j]? = some v :=
  ⟨⟨by rw [List.length_set]; exact hP, fun x hx => List.getElem?_set_ne (by omega), fun s hs => List.getElem?_set_ne (by omega)⟩, List.getElem?_set_self (by omega)⟩
theorem yk5 : (nI 99 = nI 115) = False ∧ (nI 118 = nI 115) = False ∧ (nI 110 = nI 115) = False ∧ (nI 115 = nI 99) = False ∧ (nI 115 = nI 118) = False := by
  and_intros <;> decide +kernel
theorem yx_c {T P : List Int32} {b : Nat} {v x y : Int32} (hb : b < 4) : yexe T P (nI 99, nI b, v, x, y) = P.set b v := by
  unfold yexe
  rw [if_pos rfl]
  exact ys_k (by omega)
theorem yx_v {T P : List Int32} {b : Nat} {v x y : Int32} (hb : b < 4) : yexe T P (nI 118, nI b, v, x, y) = P.set b (yg T (v - nI 97)) := by
  unfold yexe
  rw [if_neg (of_eq_false yk4.2.2.2.2.2.1), if_pos rfl]
  exact ys_k (by omega)
theorem yx_s {T P : List Int32} {b j : Nat} {v a y : Int32} (hb : b < 4) (hj : j < 100) (hv : P[b]? = some v) : yexe T P (nI 115, nI b, nI j, a, y) = P.set (4 + j) v := by
  unfold yexe
  rw [if_neg (of_eq_false yk5.2.2.2.1), if_neg (of_eq_false yk5.2.2.2.2), if_pos rfl]
  show ys P (nI 4 + nI j) (yg P (nI b)) = _
  rw [nI_add, yg_e (by omega) hv]
  exact ys_k (by omega)
theorem yx_n {T P : List Int32} {b : Nat} {v x : Int32} (hb : b < 4) (hv : P[b]? = some v) : yexe T P (nI 110, nI b, 0, nI b, x) = P.set b (-v) := by
  unfold yexe
  rw [if_neg (of_eq_false yk4.2.2.2.2.2.2.2.2.2.2.1), if_neg (of_eq_false yk4.2.2.2.2.2.2.2.2.2.2.2.1), if_neg (of_eq_false yk5.2.2.1)]
  show ys P (nI b) (yop (nI 110) (yg P (nI b)) (yg P x)) = _
  unfold yop
  rw [if_pos rfl, yg_e (by omega) hv]
  exact ys_k (by omega)
theorem yx_o {T P : List Int32} {l r : yT} {k : Int32} {b x y : Nat} {vf vo : Int32} (hk : yis k = true) (hb : b < 4) (hx : x < 100) (hy : y < 100) (hf : P[x]? = some vf) (ho : P[y]? = some vo) : yexe T P (yio l r k (nI b) (nI x) (nI y)) = P.set b (if yfo yfD l < yfo yfD r then yop k vo vf else yop k vf vo) := by
  obtain ⟨h1, h2, h3, h4⟩ := yis_ne hk
  unfold yexe yio
  by_cases c : yfo yfD l < yfo yfD r
  · simp only [if_pos c, if_neg h1, if_neg h2, if_neg h4]
    rw [yg_e (by omega) hf, yg_e (by omega) ho]
    exact ys_k (by omega)
  · simp only [if_neg c, if_neg h1, if_neg h2, if_neg h4]
    rw [yg_e (by omega) hf, yg_e (by omega) ho]
    exact ys_k (by omega)
theorem ydp_1 {t : yT} (ht : ytw t = true) : 1 ≤ ydp t := by
  cases t with
  | leaf => cases ht
  | inner n k v l r => show 1 ≤ max (ydp l) (ydp r) + 1; omega
/-- a term's code leaves its value in its register -/
theorem yco_run {M : Nat} {T : List Int32} (hM : M ≤ 4) : ∀ (n : Nat) (t : yT), ysz t ≤ n → ysz t < 2 ^ 30 → ytw t = true → ∀ (b j : Nat) (P : List Int32), b < M → j + ydp t ≤ 8 → P.length = 11 → yk3 P ((yco M t b j).foldl (yexe T) P) b j ∧ ((yco M t b j).foldl (yexe T) P)[b]? = some (yfo (yfR T) t)
  | 0, t, hn, hz, ht, b, j, P, hb, hj, hP => by
    have := ytw_sz ht
    omega
  | n + 1, .leaf, hn, hz, ht, b, j, P, hb, hj, hP => by cases ht
  | n + 1, .inner z k v l r, hn, hz, ht, b, j, P, hb, hj, hP => by
    have hn' : ysz l + ysz r + 1 ≤ n + 1 := hn
    have hz' : ysz l + ysz r + 1 < 2 ^ 30 := hz
    have hj' : j + (max (ydp l) (ydp r) + 1) ≤ 8 := hj
    rcases ytw_el ht with g0 | g0 | g0 | g0
    · rw [yco_c (Or.inl g0.1), g0.1]
      rw [List.foldl_cons, List.foldl_nil, yx_c (by omega)]
      refine ⟨(yk3_b hP (by omega)).1, ?_⟩
      rw [(yk3_b (j := j) hP (by omega)).2, yfo_i]
      unfold yfR
      rw [if_pos rfl]
    · rw [yco_c (Or.inr g0.1), g0.1]
      rw [List.foldl_cons, List.foldl_nil, yx_v (by omega)]
      refine ⟨(yk3_b hP (by omega)).1, ?_⟩
      rw [(yk3_b (j := j) hP (by omega)).2, yfo_i]
      unfold yfR
      rw [if_neg (of_eq_false yk4.2.2.2.2.2.1), if_pos rfl]
    · obtain ⟨g1, _, g2, g3⟩ := g0
      subst g1
      obtain ⟨i1, i2⟩ := yco_run (T := T) hM n l (by omega) (by omega) g2 b j P hb (by omega) hP
      rw [yco_n, List.foldl_append, List.foldl_cons, List.foldl_nil, yx_n (by omega) i2]
      obtain ⟨s1, s2⟩ := yk3_b (b := b) (j := j) (v := -yfo (yfR T) l) i1.1 (by omega)
      refine ⟨yk3_tr i1 s1 (Nat.le_refl _) (Nat.le_refl _), ?_⟩
      rw [s2, yfo_i]
      unfold yfR yop
      simp only [yk4, if_false, if_true]
    · obtain ⟨g1, _, g2, g3⟩ := g0
      obtain ⟨w1, w2⟩ := yot_tw g2 g3
      obtain ⟨w3, w4, w5⟩ := yot_sz (l := l) (r := r)
      have hfz := ytw_sz w1
      have hoz := ytw_sz w2
      obtain ⟨h1, h2, h3, h4⟩ := yis_ne g1
      have hval : (if yfo yfD l < yfo yfD r then yop k (yfo (yfR T) (yot l r)) (yfo (yfR T) (yfi l r)) else yop k (yfo (yfR T) (yfi l r)) (yfo (yfR T) (yot l r))) = yfo (yfR T) (.inner z k v l r) := by
        rw [yfo_i]
        show _ = yfR T k v _ _
        unfold yfR
        rw [if_neg h1, if_neg h2]
        unfold yfi yot
        by_cases c : yfo yfD l < yfo yfD r
        · simp only [if_pos c]
        · simp only [if_neg c]
      obtain ⟨u, n1, n2, n3⟩ := yfD_n (yot l r) w2 (by omega)
      obtain ⟨i1, i2⟩ := yco_run (T := T) hM n (yfi l r) (by omega) (by omega) w1 b j P hb (by omega) hP
      rw [yco_o g1]
      split
      · rename_i cc
        have hbM : b + 1 < M := by
          rw [n3, nI_subn (by omega)] at cc
          have : u < M - b := Nat.lt_of_not_le fun z => nI_nlt z (by omega) cc
          omega
        rw [List.foldl_append, List.foldl_append]
        obtain ⟨j1, j2⟩ := yco_run (T := T) hM n (yot l r) (by omega) (by omega) w2 (b + 1) j _ hbM (by omega) i1.1
        have hb2 : ((yco M (yot l r) (b + 1) j).foldl (yexe T) ((yco M (yfi l r) b j).foldl (yexe T) P))[b]? = some (yfo (yfR T) (yfi l r)) := (j1.2.1 b (by omega)).trans i2
        rw [List.foldl_cons, List.foldl_nil, yx_o g1 (by omega) (by omega) (by omega) hb2 j2, hval]
        obtain ⟨s1, s2⟩ := yk3_b (b := b) (j := j) (v := yfo (yfR T) (.inner z k v l r)) j1.1 (by omega)
        exact ⟨yk3_tr (yk3_tr i1 j1 (by omega) (Nat.le_refl _)) s1 (Nat.le_refl _) (Nat.le_refl _), s2⟩
      · have hoz1 := ydp_1 w2
        rw [List.foldl_append, List.foldl_cons, yx_s (by omega) (by omega) i2, List.foldl_append]
        obtain ⟨t1, t2⟩ := yk3_s (b := b) (j := j) (v := yfo (yfR T) (yfi l r)) i1.1 (by omega) (by omega)
        obtain ⟨j1, j2⟩ := yco_run (T := T) hM n (yot l r) (by omega) (by omega) w2 b (j + 1) _ hb (by omega) t1.1
        have hb2 := (j1.2.2 j (by omega)).trans t2
        rw [List.foldl_cons, List.foldl_nil, yx_o g1 (by omega) (by omega) (by omega) hb2 j2, hval]
        obtain ⟨s1, s2⟩ := yk3_b (b := b) (j := j) (v := yfo (yfR T) (.inner z k v l r)) j1.1 (by omega)
        exact ⟨yk3_tr (yk3_tr (yk3_tr i1 t1 (Nat.le_refl _) (Nat.le_refl _)) j1 (Nat.le_refl _) (by omega)) s1 (Nat.le_refl _) (Nat.le_refl _), s2⟩
theorem yco_val {M : Nat} {T P : List Int32} {t : yT} (h1M : 1 ≤ M) (hM : M ≤ 4) (tk : ytok t) (hP : P.length = 11) : yg ((yco M t 0 0).foldl (yexe T) P) 0 = yfo (yfR T) t := by
  have h := (yco_run (T := T) hM (ysz t) t (Nat.le_refl _) (by have := tk.2.1; omega) tk.1 0 0 P (by omega) (by have := tk.2.2; omega) hP).2
  rw [← nI_0]
  exact yg_e (by decide) h
/-- the state is consistent -/
theorem ycon_ok {M : Nat} {T : List Int32} {t : yT} (h1M : 1 ≤ M) (hM : M ≤ 4) (tk : ytok t) : ycon T M t := by
  refine ⟨fun P hP => (yco_val h1M hM tk hP).symm, fun B0 hB => ?_, ?_, fun c hc => (yder_v tk.1).symm⟩
  · rw [yinc_1 tk.1 tk.2.1 hB, (yparts tk.1 (by have := tk.2.1; omega)).2]
  · obtain ⟨n, _, r1, r2⟩ := yreg_n tk.1 (by have := tk.2.1; omega)
    rw [r1, r2]
end ZHV

section ZSI
variable {sv : Nat → Value} {m b : Nat} {xs : List Int32} {h : zH} {w : yW} {o2 : List Int32} {th : Int32}
theorem yinF_no {A : yA} {x : Int32} (hA : A.1.length ≤ 6) (hx : x < 0 ∨ ¬ x < nI A.1.length) : yinF A x = false := by
  rcases yinF_or hA x with ⟨i, hi, rfl⟩ | z
  · rcases hx with q | q
    · exact absurd q (nI_pos (by omega))
    · exact absurd (nI_lt hi (by omega)) q
  · exact z
theorem zMC_x {w : yW} {m2 : Nat} {h : zH} {r : zR} {a th : Int32} (hz : zMC m2 h r a w th) : ∃ h2, r = some (.inl (some (.int a)), h2) ∧ zMdl h2 m2 w th ∧ zmw m2 h h2 := hz
theorem zTi_6 (T : zTi sv h m b xs w o2 th) : (ycur w).1.length ≤ 6 := (zcur_ok T.1).1
theorem ytr_or (x : Int32) (T : zTi sv h m b xs w o2 th) : (x < 0 ∨ ¬ x < nI (ycur w).1.length) ∨ ∃ i t, x = nI i ∧ (ycur w).1[i]? = some t := by
  have h6 := zTi_6 T
  rcases ycase x (n := (ycur w).1.length) (by omega) with z | ⟨i, hi, rfl⟩
  · exact Or.inl z
  · exact Or.inr ⟨i, _, rfl, List.getElem?_eq_getElem hi⟩
theorem yff2 : ∀ b, b < 63 → ∀ a, a ≤ b → 1 ≤ b → decide (FP.f2d (FP.fdiv (FP.i2f (nI a)) (FP.i2f (nI b))) &&& 9223372036854775807 ≤ 9218868437227405312) = true := by decide +kernel
theorem yff3 : ∀ b, b < 63 → ∀ a, a ≤ b → 1 ≤ b → Op.cmpValue (FP.dcmp (FP.f2d (FP.fdiv (FP.i2f (nI a)) (FP.i2f (nI b)))) (FP.f2d (FP.fdiv (FP.i2f (nI a)) (FP.i2f (nI b))))) .l = 0 := by decide +kernel

theorem t_nodeCount {x1 : Int32} (T : zTi sv h m b xs w o2 th) : ∃ k bv w1 o3 th' out, k ≤ 4 ∧ zSt sv m b xs h (zcall zP sv 60 309 [.ref m, .int x1, .ref (m + 137)] h) (fun h1 => zcall zP sv 60 253 [.ref (m + 119), .int x1] h1) k bv w1 o3 th' out ∧ (∃ a0, bv = .int a0) ∧ th' = nI k ∧ (k = 0 → ∃ a : Int32, bv = .int a ∧ out = (22, .long a.toInt64)) := by
  have hc := T.1
  have hk := T.2.2.1
  have ho := T.2.2.2.1
  have r1 := zEC1 hc
  rcases ytr_or x1 T with z | ⟨i, t, rfl, hi⟩
  · have zx := yinF_no (zTi_6 T) z
    exact ⟨1, _, _, _, _, (22, .null), by omega, zst_e T (zEnd_y hc (d_36n (d := 11) hc z)) (by omega) (by omega) hk (fun h1 e => p_309e_2 r1 e) (by decide) (fun h1 q => zMC_x (e_253x (d := 53) q zx)) ho, ⟨_, rfl⟩, rfl, fun z => absurd z (by decide)⟩
  · exact ⟨0, _, _, _, _, _, by omega, zst_v T (zEnd_y hc (d_36 (d := 11) hc hi)) (by omega) (by omega) hk (fun h1 l e q => p_309v r1 e q) (fun h1 q => zMC_x (e_253 (d := 53) q hi)) ho, ⟨_, rfl⟩, rfl, fun _ => ⟨_, rfl, rfl⟩⟩
theorem t_depth {x1 : Int32} (T : zTi sv h m b xs w o2 th) : ∃ k bv w1 o3 th' out, k ≤ 4 ∧ zSt sv m b xs h (zcall zP sv 60 310 [.ref m, .int x1, .ref (m + 137)] h) (fun h1 => zcall zP sv 60 254 [.ref (m + 119), .int x1] h1) k bv w1 o3 th' out ∧ (∃ a0, bv = .int a0) ∧ th' = nI k ∧ (k = 0 → ∃ a : Int32, bv = .int a ∧ out = (22, .long a.toInt64)) := by
  have hc := T.1
  have hk := T.2.2.1
  have ho := T.2.2.2.1
  have r1 := zEC1 hc
  rcases ytr_or x1 T with z | ⟨i, t, rfl, hi⟩
  · have zx := yinF_no (zTi_6 T) z
    exact ⟨1, _, _, _, _, (22, .null), by omega, zst_e T (zEnd_y hc (d_37n (d := 11) hc z)) (by omega) (by omega) hk (fun h1 e => p_310e_2 r1 e) (by decide) (fun h1 q => zMC_x (e_254x (d := 53) q zx)) ho, ⟨_, rfl⟩, rfl, fun z => absurd z (by decide)⟩
  · have tk := (zcur_ok hc).2.1 t (List.mem_of_getElem? hi)
    exact ⟨0, _, _, _, _, _, by omega, zst_v T (zEnd_y hc (d_37 (d := 11) hc hi)) (by omega) (by omega) hk (fun h1 l e q => p_310v r1 e q) (fun h1 q => zMC_x (by
      obtain ⟨N, _, z⟩ := e_254 (d := 53) q hi
      rw [ymf1 t tk.1 (by have := tk.2.2; omega)] at z
      exact z)) ho, ⟨_, rfl⟩, rfl, fun _ => ⟨_, rfl, rfl⟩⟩
theorem zst_va {A rc : zR} {Bf : zH → zR} {N K : Nat} {y : Int64} {v : Value} {o3 : List Int32} {th' : Int32} {w1 : yW} (T : zTi sv h m b xs w o2 th) (hC : ∃ h1, rc = some (.inl (some v), h1) ∧ zCls h1 m w1 ∧ zfy m N K h h1) (hN : N ≤ 1000) (hK : K ≤ 2000) (hk : yWok w1) (hP : ∀ h1 l, rc = some (.inl (some v), h1) → h1.1 (m + 137) = (22, [.long l]) → A = some (.inl (some (.int 0)), zup h1 (m + 137) (22, [.long y]))) (hM : ∀ h1, zMdl h1 (m + 119) (yso w o2) th → ∃ (a : Int32) (h2 : zH), Bf h1 = some (.inl (some (.int a)), h2) ∧ zMdl h2 (m + 119) (yso w1 o3) th' ∧ zmw (m + 119) h1 h2) (ho : ∀ x, x ∈ o3 → ychr x) : ∃ k bv w1 o3 th' out, k ≤ 4 ∧ zSt sv m b xs h A Bf k bv w1 o3 th' out ∧ ∃ a0, bv = .int a0 := by
  obtain ⟨h1, e1, c1, f1⟩ := hC
  have T1 := zTj_c T c1 f1 hk
  obtain ⟨l, t7⟩ := T1.2.2.2.2.2.1
  have e2 := hP h1 l e1 t7
  have T2 := zTj_o (y := y) T1
  obtain ⟨a, h2, e3, m2, f2⟩ := hM _ T2.2.1
  exact ⟨0, _, _, _, _, (22, .long y), by omega, ⟨_, h2, by rw [e2, nI_0], fun X => zMdl_rc T2.2.1, T2.2.2.2.2.1.2, e3, zTj_m T2 m2 f2 ho, zgr_of f1 f2.2 hN hK, fun _ => ⟨fun _ => by rw [f2.1 _ (by omega), zup_at], fun q => (by cases q)⟩⟩, _, rfl⟩
theorem t_degree {x1 : Int32} (T : zTi sv h m b xs w o2 th) : ∃ k bv w1 o3 th' out, k ≤ 4 ∧ zSt sv m b xs h (zcall zP sv 60 312 [.ref m, .int x1, .ref (m + 137)] h) (fun h1 => zcall zP sv 60 256 [.ref (m + 119), .int x1] h1) k bv w1 o3 th' out ∧ (∃ a0, bv = .int a0) ∧ th' = nI k ∧ (k = 0 → ∃ a : Int32, bv = .int a ∧ out = (22, .long a.toInt64)) := by
  have hc := T.1
  have hk := T.2.2.1
  have ho := T.2.2.2.1
  have r1 := zEC1 hc
  rcases ytr_or x1 T with z | ⟨i, t, rfl, hi⟩
  · have zx := yinF_no (zTi_6 T) z
    exact ⟨1, _, _, _, _, (22, .null), by omega, zst_e T (zEnd_y hc (d_39n (d := 11) hc z)) (by omega) (by omega) hk (fun h1 e => p_312e_2 r1 e) (by decide) (fun h1 q => zMC_x (e_256x (d := 53) q zx)) ho, ⟨_, rfl⟩, rfl, fun z => absurd z (by decide)⟩
  · have tk := (zcur_ok hc).2.1 t (List.mem_of_getElem? hi)
    have ks := tk.2.1
    exact ⟨0, _, _, _, _, _, by omega, zst_v T (zEnd_y hc (d_39 (d := 11) hc hi)) (by omega) (by omega) hk (fun h1 l e q => p_312v r1 e q) (fun h1 q => zMC_x (by
      obtain ⟨N, hN, z⟩ := e_256 (sv := sv) (d := 53) q hi
      rw [show yfo (ymf 2 N) t = yfo yfP t from ((ydg_P tk.1 (by omega)).2 N).trans (ydg_P tk.1 (by omega)).1.symm] at z
      exact z)) ho, ⟨_, rfl⟩, rfl, fun _ => ⟨_, rfl, rfl⟩⟩
theorem t_isConstant {x1 : Int32} (T : zTi sv h m b xs w o2 th) : ∃ k bv w1 o3 th' out, k ≤ 4 ∧ zSt sv m b xs h (zcall zP sv 60 313 [.ref m, .int x1, .ref (m + 137)] h) (fun h1 => zcall zP sv 60 257 [.ref (m + 119), .int x1] h1) k bv w1 o3 th' out ∧ (∃ a0, bv = .int a0) ∧ th' = nI k ∧ (k = 0 → ∃ c : Bool, bv = .int (yb c) ∧ out = (22, .long (if c = true then 1 else 0))) := by
  have hc := T.1
  have hk := T.2.2.1
  have ho := T.2.2.2.1
  have r1 := zEC1 hc
  rcases ytr_or x1 T with z | ⟨i, t, rfl, hi⟩
  · have zx := yinF_no (zTi_6 T) z
    exact ⟨1, _, _, _, _, (22, .null), by omega, zst_e T (zEnd_y hc (d_40n (d := 11) hc z)) (by omega) (by omega) hk (fun h1 e => p_313e_2 r1 e) (by decide) (fun h1 q => zMC_x (e_257x (d := 53) q zx)) ho, ⟨_, rfl⟩, rfl, fun z => absurd z (by decide)⟩
  · exact ⟨0, _, _, _, _, _, by omega, zst_v T (zEnd_y hc (d_40 (d := 11) hc hi)) (by omega) (by omega) hk (fun h1 l e q => p_313v r1 e q) (fun h1 q => zMC_x (by
      have z := e_257 (sv := sv) (d := 53) q hi
      rw [show decide (yvc (ypr t) = 0) = !yvr (ypo 0 t) from by rw [yvr_vc, Bool.not_not]] at z
      exact z)) ho, ⟨_, rfl⟩, rfl, fun _ => ⟨_, rfl, rfl⟩⟩
theorem t_distinctParts {x1 : Int32} (T : zTi sv h m b xs w o2 th) : ∃ k bv w1 o3 th' out, k ≤ 4 ∧ zSt sv m b xs h (zcall zP sv 60 315 [.ref m, .int x1, .ref (m + 137)] h) (fun h1 => zcall zP sv 60 261 [.ref (m + 119), .int x1] h1) k bv w1 o3 th' out ∧ (∃ a0, bv = .int a0) ∧ th' = nI k ∧ (k = 0 → ∃ a : Int32, bv = .int a ∧ out = (22, .long a.toInt64)) := by
  have hc := T.1
  have hk := T.2.2.1
  have ho := T.2.2.2.1
  have r1 := zEC1 hc
  rcases ytr_or x1 T with z | ⟨i, t, rfl, hi⟩
  · have zx := yinF_no (zTi_6 T) z
    exact ⟨1, _, _, _, _, (22, .null), by omega, zst_e T (zEnd_y hc (d_42n (d := 11) hc z)) (by omega) (by omega) hk (fun h1 e => p_315e_2 r1 e) (by decide) (fun h1 q => zMC_x (e_261x (d := 53) q zx)) ho, ⟨_, rfl⟩, rfl, fun z => absurd z (by decide)⟩
  · have tk := (zcur_ok hc).2.1 t (List.mem_of_getElem? hi)
    have ks := tk.2.1
    obtain ⟨B0, hB0, zc⟩ := d_42 (sv := sv) (d := 11) hc hi
    rw [yinc_1 tk.1 tk.2.1 hB0, ← (yparts tk.1 (by omega)).1] at zc
    exact ⟨0, _, _, _, _, _, by omega, zst_v T (zEnd_y hc zc) (by omega) (by omega) hk (fun h1 l e q => p_315v r1 e q) (fun h1 q => zMC_x (e_261 (d := 53) q hi)) ho, ⟨_, rfl⟩, rfl, fun _ => ⟨_, rfl, rfl⟩⟩
theorem t_distinctPartsByComparison {x1 : Int32} (T : zTi sv h m b xs w o2 th) : ∃ k bv w1 o3 th' out, k ≤ 4 ∧ zSt sv m b xs h (zcall zP sv 60 316 [.ref m, .int x1, .ref (m + 137)] h) (fun h1 => zcall zP sv 60 262 [.ref (m + 119), .int x1] h1) k bv w1 o3 th' out ∧ (∃ a0, bv = .int a0) ∧ th' = nI k ∧ (k = 0 → ∃ a : Int32, bv = .int a ∧ out = (22, .long a.toInt64)) := by
  have hc := T.1
  have hk := T.2.2.1
  have ho := T.2.2.2.1
  have r1 := zEC1 hc
  rcases ytr_or x1 T with z | ⟨i, t, rfl, hi⟩
  · have zx := yinF_no (zTi_6 T) z
    exact ⟨1, _, _, _, _, (22, .null), by omega, zst_e T (zEnd_y hc (d_43n (d := 11) hc z)) (by omega) (by omega) hk (fun h1 e => p_316e_2 r1 e) (by decide) (fun h1 q => zMC_x (e_262w (d := 52) q (e_261x (d := 52) q zx))) ho, ⟨_, rfl⟩, rfl, fun z => absurd z (by decide)⟩
  · have tk := (zcur_ok hc).2.1 t (List.mem_of_getElem? hi)
    have ks := tk.2.1
    exact ⟨0, _, _, _, _, _, by omega, zst_v T (zEnd_y hc (d_43 (d := 11) hc hi)) (by omega) (by omega) hk (fun h1 l e q => p_316v r1 e q) (fun h1 q => zMC_x (by
      have z := e_262w (sv := sv) (d := 52) q (e_261 (d := 52) q hi)
      rw [(yparts tk.1 (by omega)).1, ← (yparts tk.1 (by omega)).2] at z
      exact z)) ho, ⟨_, rfl⟩, rfl, fun _ => ⟨_, rfl, rfl⟩⟩
theorem t_value {x1 : Int32} (T : zTi sv h m b xs w o2 th) : ∃ k bv w1 o3 th' out, k ≤ 4 ∧ zSt sv m b xs h (zcall zP sv 60 318 [.ref m, .int x1, .ref (m + 137)] h) (fun h1 => zcall zP sv 60 264 [.ref (m + 119), .int x1] h1) k bv w1 o3 th' out ∧ (∃ a0, bv = .int a0) ∧ th' = nI k ∧ (k = 0 → ∃ a : Int32, bv = .int a ∧ out = (22, .long a.toInt64)) := by
  have hc := T.1
  have hk := T.2.2.1
  have ho := T.2.2.2.1
  have r1 := zEC1 hc
  rcases ytr_or x1 T with z | ⟨i, t, rfl, hi⟩
  · have zx := yinF_no (zTi_6 T) z
    exact ⟨1, _, _, _, _, (22, .null), by omega, zst_e T (zEnd_y hc (d_45n (d := 11) hc z)) (by omega) (by omega) hk (fun h1 e => p_318e_2 r1 e) (by decide) (fun h1 q => zMC_x (e_264x (d := 53) q zx)) ho, ⟨_, rfl⟩, rfl, fun z => absurd z (by decide)⟩
  · have tk := (zcur_ok hc).2.1 t (List.mem_of_getElem? hi)
    have ks := tk.2.1
    exact ⟨0, _, _, _, _, _, by omega, zst_v T (zEnd_y hc (d_45 (d := 11) hc hi)) (by omega) (by omega) hk (fun h1 l e q => p_318v r1 e q) (fun h1 q => zMC_x (by
      obtain ⟨N, hN, z⟩ := e_264 (sv := sv) (d := 53) q hi
      rw [yval_N hN (show yAok (ycur (yso w o2)) from zcur_ok (w := w) hc) tk.1] at z
      exact z)) ho, ⟨_, rfl⟩, rfl, fun _ => ⟨_, rfl, rfl⟩⟩
theorem t_codeLength {x1 : Int32} (T : zTi sv h m b xs w o2 th) : ∃ k bv w1 o3 th' out, k ≤ 4 ∧ zSt sv m b xs h (zcall zP sv 60 324 [.ref m, .int x1, .ref (m + 137)] h) (fun h1 => zcall zP sv 60 273 [.ref (m + 119), .int x1] h1) k bv w1 o3 th' out ∧ (∃ a0, bv = .int a0) ∧ th' = nI k ∧ (k = 0 → ∃ a : Int32, bv = .int a ∧ out = (22, .long a.toInt64)) := by
  have hc := T.1
  have hk := T.2.2.1
  have ho := T.2.2.2.1
  have r1 := zEC1 hc
  obtain ⟨M, h1M, hM4, hR⟩ := id hk.1
  rcases ytr_or x1 T with z | ⟨i, t, rfl, hi⟩
  · have zx := yinF_no (zTi_6 T) z
    exact ⟨1, _, _, _, _, (22, .null), by omega, zst_e T (zEnd_y hc (d_51n (d := 11) hc z)) (by omega) (by omega) hk (fun h1 e => p_324e_2 r1 e) (by decide) (fun h1 q => zMC_x (e_273x (d := 52) q hR zx)) ho, ⟨_, rfl⟩, rfl, fun z => absurd z (by decide)⟩
  · exact ⟨0, _, _, _, _, _, by omega, zst_v T (zEnd_y hc (d_51 (d := 11) hc hi hR h1M hM4)) (by omega) (by omega) hk (fun h1 l e q => p_324v r1 e q) (fun h1 q => zMC_x (e_273 (d := 48) q hi hR h1M hM4)) ho, ⟨_, rfl⟩, rfl, fun _ => ⟨_, rfl, rfl⟩⟩
theorem t_storeCount {x1 : Int32} (T : zTi sv h m b xs w o2 th) : ∃ k bv w1 o3 th' out, k ≤ 4 ∧ zSt sv m b xs h (zcall zP sv 60 325 [.ref m, .int x1, .ref (m + 137)] h) (fun h1 => zcall zP sv 60 274 [.ref (m + 119), .int x1] h1) k bv w1 o3 th' out ∧ (∃ a0, bv = .int a0) ∧ th' = nI k ∧ (k = 0 → ∃ a : Int32, bv = .int a ∧ out = (22, .long a.toInt64)) := by
  have hc := T.1
  have hk := T.2.2.1
  have ho := T.2.2.2.1
  have r1 := zEC1 hc
  obtain ⟨M, h1M, hM4, hR⟩ := id hk.1
  rcases ytr_or x1 T with z | ⟨i, t, rfl, hi⟩
  · have zx := yinF_no (zTi_6 T) z
    exact ⟨1, _, _, _, _, (22, .null), by omega, zst_e T (zEnd_y hc (d_52n (d := 11) hc z)) (by omega) (by omega) hk (fun h1 e => p_325e_2 r1 e) (by decide) (fun h1 q => zMC_x (e_274x (d := 52) q hR zx)) ho, ⟨_, rfl⟩, rfl, fun z => absurd z (by decide)⟩
  · exact ⟨0, _, _, _, _, _, by omega, zst_v T (zEnd_y hc (d_52 (d := 11) hc hi hR h1M hM4)) (by omega) (by omega) hk (fun h1 l e q => p_325v r1 e q) (fun h1 q => zMC_x (e_274 (d := 48) q hi hR h1M hM4)) ho, ⟨_, rfl⟩, rfl, fun _ => ⟨_, rfl, rfl⟩⟩
theorem t_slotCount {x1 : Int32} (T : zTi sv h m b xs w o2 th) : ∃ k bv w1 o3 th' out, k ≤ 4 ∧ zSt sv m b xs h (zcall zP sv 60 326 [.ref m, .int x1, .ref (m + 137)] h) (fun h1 => zcall zP sv 60 275 [.ref (m + 119), .int x1] h1) k bv w1 o3 th' out ∧ (∃ a0, bv = .int a0) ∧ th' = nI k ∧ (k = 0 → ∃ a : Int32, bv = .int a ∧ out = (22, .long a.toInt64)) := by
  have hc := T.1
  have hk := T.2.2.1
  have ho := T.2.2.2.1
  have r1 := zEC1 hc
  obtain ⟨M, h1M, hM4, hR⟩ := id hk.1
  rcases ytr_or x1 T with z | ⟨i, t, rfl, hi⟩
  · have zx := yinF_no (zTi_6 T) z
    exact ⟨1, _, _, _, _, (22, .null), by omega, zst_e T (zEnd_y hc (d_53n (d := 11) hc z)) (by omega) (by omega) hk (fun h1 e => p_326e_2 r1 e) (by decide) (fun h1 q => zMC_x (e_275x (d := 52) q hR zx)) ho, ⟨_, rfl⟩, rfl, fun z => absurd z (by decide)⟩
  · exact ⟨0, _, _, _, _, _, by omega, zst_v T (zEnd_y hc (d_53 (d := 11) hc hi hR h1M hM4)) (by omega) (by omega) hk (fun h1 l e q => p_326v r1 e q) (fun h1 q => zMC_x (e_275 (d := 48) q hi hR h1M hM4)) ho, ⟨_, rfl⟩, rfl, fun _ => ⟨_, rfl, rfl⟩⟩
theorem t_storeShare {x1 : Int32} (T : zTi sv h m b xs w o2 th) : ∃ k bv w1 o3 th' out, k ≤ 4 ∧ zSt sv m b xs h (zcall zP sv 60 335 [.ref m, .int x1, .ref (m + 138)] h) (fun h1 => zcall zP sv 60 292 [.ref (m + 119), .int x1] h1) k bv w1 o3 th' out ∧ (∃ a0, bv = .float a0) ∧ th' = nI k ∧ (k = 0 → ∃ y : UInt32, bv = .float y ∧ out = (23, .double (FP.f2d y)) ∧ decide (FP.f2d y &&& 9223372036854775807 ≤ 9218868437227405312) = true ∧ Op.cmpValue (FP.dcmp (FP.f2d y) (FP.f2d y)) .l = 0) := by
  have hc := T.1
  have hk := T.2.2.1
  have ho := T.2.2.2.1
  have r1 := zEC1 hc
  obtain ⟨M, h1M, hM4, hR⟩ := id hk.1
  rcases ytr_or x1 T with z | ⟨i, t, rfl, hi⟩
  · have zx := yinF_no (zTi_6 T) z
    exact ⟨1, _, _, _, _, (23, .null), by omega, zst_e T (zEnd_y hc (d_63n (d := 11) hc z)) (by omega) (by omega) hk (fun h1 e => p_335e_2 r1 e) (by decide) (fun h1 q => e_292x (d := 52) q hR zx) ho, ⟨_, rfl⟩, rfl, fun z => absurd z (by decide)⟩
  · have tk := (zcur_ok hc).2.1 t (List.mem_of_getElem? hi)
    have hz := tk.2.1
    have hlen := yco_len (M := M) (ysz t) t (Nat.le_refl _) tk.1 0 0
    have hfd := yff2 (yco M t 0 0).length (by omega) _ (ycs_le (q := yco M t 0 0)) (yco_pos tk.1)
    exact ⟨0, _, _, _, _, _, by omega, zst_d T (zEnd_y hc (d_63 (d := 11) hc hi hR h1M hM4)) (by omega) (by omega) hk (fun h1 l e q => p_335v r1 hfd e q) (fun h1 q => e_292 (d := 48) q hi hR h1M hM4) ho, ⟨_, rfl⟩, rfl, fun _ => ⟨_, rfl, rfl, hfd, yff3 (yco M t 0 0).length (by omega) _ (ycs_le (q := yco M t 0 0)) (yco_pos tk.1)⟩⟩
theorem t_valueByCode {x1 : Int32} (T : zTi sv h m b xs w o2 th) : ∃ k bv w1 o3 th' out, k ≤ 4 ∧ zSt sv m b xs h (zcall zP sv 60 319 [.ref m, .int x1, .ref (m + 137)] h) (fun h1 => zcall zP sv 60 265 [.ref (m + 119), .int x1] h1) k bv w1 o3 th' out ∧ (∃ a0, bv = .int a0) ∧ th' = nI k ∧ (k = 0 → ∃ a : Int32, bv = .int a ∧ out = (22, .long a.toInt64)) := by
  have hc := T.1
  have hk := T.2.2.1
  have ho := T.2.2.2.1
  have r1 := zEC1 hc
  obtain ⟨M, h1M, hM4, hR⟩ := id hk.1
  rcases ytr_or x1 T with z | ⟨i, t, rfl, hi⟩
  · have zx := yinF_no (zTi_6 T) z
    exact ⟨1, _, _, _, _, (22, .null), by omega, zst_e T (zEnd_y hc (d_46n (d := 11) hc z)) (by omega) (by omega) hk (fun h1 e => p_319e_2 r1 e) (by decide) (fun h1 q => zMC_x (e_265w (d := 52) q (e_264x (d := 52) q zx))) ho, ⟨_, rfl⟩, rfl, fun z => absurd z (by decide)⟩
  · have tk := (zcur_ok hc).2.1 t (List.mem_of_getElem? hi)
    obtain ⟨P, hP, zc⟩ := d_46 (sv := sv) (d := 11) hc hi hR h1M hM4
    rw [yco_val h1M hM4 tk hP] at zc
    exact ⟨0, _, _, _, _, _, by omega, zst_v T (zEnd_y hc (zc)) (by omega) (by omega) hk (fun h1 l e q => p_319v r1 e q) (fun h1 q => zMC_x (by
      obtain ⟨N, hN, z⟩ := e_264 (sv := sv) (d := 52) q hi
      rw [yval_N hN (show yAok (ycur (yso w o2)) from zcur_ok (w := w) hc) tk.1] at z
      exact e_265w (d := 52) q z)) ho, ⟨_, rfl⟩, rfl, fun _ => ⟨_, rfl, rfl⟩⟩
theorem t_neededRegisters {x1 : Int32} (T : zTi sv h m b xs w o2 th) : ∃ k bv w1 o3 th' out, k ≤ 4 ∧ zSt sv m b xs h (zcall zP sv 60 322 [.ref m, .int x1, .ref (m + 137)] h) (fun h1 => zcall zP sv 60 268 [.ref (m + 119), .int x1] h1) k bv w1 o3 th' out ∧ (∃ a0, bv = .int a0) ∧ th' = nI k ∧ (k = 0 → ∃ a : Int32, bv = .int a ∧ out = (22, .long a.toInt64)) := by
  have hc := T.1
  have hk := T.2.2.1
  have ho := T.2.2.2.1
  have r1 := zEC1 hc
  rcases ytr_or x1 T with z | ⟨i, t, rfl, hi⟩
  · have zx := yinF_no (zTi_6 T) z
    exact ⟨1, _, _, _, _, (22, .null), by omega, zst_e T (zEnd_y hc (d_49n (d := 11) hc z)) (by omega) (by omega) hk (fun h1 e => p_322e_2 r1 e) (by decide) (fun h1 q => zMC_x (e_268x (d := 53) q zx)) ho, ⟨_, rfl⟩, rfl, fun z => absurd z (by decide)⟩
  · have tk := (zcur_ok hc).2.1 t (List.mem_of_getElem? hi)
    have ks := tk.2.1
    exact ⟨0, _, _, _, _, _, by omega, zst_v T (zEnd_y hc (d_49 (d := 11) hc hi)) (by omega) (by omega) hk (fun h1 l e q => p_322v r1 e q) (fun h1 q => zMC_x (by
      obtain ⟨N, hN, z⟩ := e_268 (sv := sv) (d := 53) q hi
      rw [yreg_D tk.1] at z
      exact z)) ho, ⟨_, rfl⟩, rfl, fun _ => ⟨_, rfl, rfl⟩⟩
theorem t_neededRegistersByOrders {x1 : Int32} (T : zTi sv h m b xs w o2 th) : ∃ k bv w1 o3 th' out, k ≤ 4 ∧ zSt sv m b xs h (zcall zP sv 60 323 [.ref m, .int x1, .ref (m + 137)] h) (fun h1 => zcall zP sv 60 269 [.ref (m + 119), .int x1] h1) k bv w1 o3 th' out ∧ (∃ a0, bv = .int a0) ∧ th' = nI k ∧ (k = 0 → ∃ a : Int32, bv = .int a ∧ out = (22, .long a.toInt64)) := by
  have hc := T.1
  have hk := T.2.2.1
  have ho := T.2.2.2.1
  have r1 := zEC1 hc
  rcases ytr_or x1 T with z | ⟨i, t, rfl, hi⟩
  · have zx := yinF_no (zTi_6 T) z
    exact ⟨1, _, _, _, _, (22, .null), by omega, zst_e T (zEnd_y hc (d_50n (d := 11) hc z)) (by omega) (by omega) hk (fun h1 e => p_323e_2 r1 e) (by decide) (fun h1 q => zMC_x (e_269w (d := 52) q (e_268x (d := 52) q zx))) ho, ⟨_, rfl⟩, rfl, fun z => absurd z (by decide)⟩
  · have tk := (zcur_ok hc).2.1 t (List.mem_of_getElem? hi)
    have ks := tk.2.1
    exact ⟨0, _, _, _, _, _, by omega, zst_v T (zEnd_y hc (d_50 (d := 11) hc hi)) (by omega) (by omega) hk (fun h1 l e q => p_323v r1 e q) (fun h1 q => zMC_x (by
      obtain ⟨N, hN, z⟩ := e_268 (sv := sv) (d := 52) q hi
      rw [yreg_D tk.1, show yfo yfD t = yfo yfO t from by obtain ⟨n, _, r1, r2⟩ := yreg_n tk.1 (by omega); rw [r1, r2]] at z
      exact e_269w (d := 52) q z)) ho, ⟨_, rfl⟩, rfl, fun _ => ⟨_, rfl, rfl⟩⟩
theorem t_leastRegistersWithoutStore {x1 : Int32} (T : zTi sv h m b xs w o2 th) : ∃ k bv w1 o3 th' out, k ≤ 4 ∧ zSt sv m b xs h (zcall zP sv 60 327 [.ref m, .int x1, .ref (m + 137)] h) (fun h1 => zcall zP sv 60 276 [.ref (m + 119), .int x1] h1) k bv w1 o3 th' out ∧ (∃ a0, bv = .int a0) ∧ th' = nI k ∧ (k = 0 → ∃ a : Int32, bv = .int a ∧ out = (22, .long a.toInt64)) := by
  have hc := T.1
  have hk := T.2.2.1
  have ho := T.2.2.2.1
  have r1 := zEC1 hc
  rcases ytr_or x1 T with z | ⟨i, t, rfl, hi⟩
  · have zx := yinF_no (zTi_6 T) z
    exact ⟨1, _, _, _, _, (22, .null), by omega, zst_e T (zEnd_y hc (d_54n (d := 11) hc z)) (by omega) (by omega) hk (fun h1 e => p_327e_2 r1 e) (by decide) (fun h1 q => zMC_x (e_276x (d := 52) q zx)) ho, ⟨_, rfl⟩, rfl, fun z => absurd z (by decide)⟩
  · cases hl : ylr t 1 4 with
    | some c =>
      have e := fun h1 (q : zMdl h1 (m + 119) (yso w o2) th) => e_276 (sv := sv) (d := 48) q hi
      rw [hl] at e
      exact ⟨0, _, _, _, _, _, by omega, zst_v T (zEnd_y hc (d_54k (d := 11) hc hi hl)) (by omega) (by omega) hk (fun h1 l e q => p_327v r1 e q) (fun h1 q => zMC_x (e h1 q)) ho, ⟨_, rfl⟩, rfl, fun _ => ⟨_, rfl, rfl⟩⟩
    | none =>
      have e := fun h1 (q : zMdl h1 (m + 119) (yso w o2) th) => e_276 (sv := sv) (d := 48) q hi
      rw [hl] at e
      exact ⟨2, _, _, _, _, (22, .null), by omega, zst_e T (zEnd_y hc (d_54m (d := 11) hc hi hl)) (by omega) (by omega) hk (fun h1 e => p_327e_4 r1 e) (by decide) (fun h1 q => zMC_x (e h1 q)) ho, ⟨_, rfl⟩, rfl, fun z => absurd z (by decide)⟩
theorem t_occurrences {x1 : Int32} {x2 : Int32} (T : zTi sv h m b xs w o2 th) : ∃ k bv w1 o3 th' out, k ≤ 4 ∧ zSt sv m b xs h (zcall zP sv 60 311 [.ref m, .int x1, .int x2, .ref (m + 137)] h) (fun h1 => zcall zP sv 60 255 [.ref (m + 119), .int x1, .int x2] h1) k bv w1 o3 th' out ∧ (∃ a0, bv = .int a0) ∧ th' = nI k ∧ (k = 0 → ∃ a : Int32, bv = .int a ∧ out = (22, .long a.toInt64)) := by
  have hc := T.1
  have hk := T.2.2.1
  have ho := T.2.2.2.1
  have r1 := zEC1 hc
  rcases ytr_or x1 T with z | ⟨i, t, rfl, hi⟩
  · have zx := yinF_no (zTi_6 T) z
    exact ⟨1, _, _, _, _, (22, .null), by omega, zst_e T (zEnd_y hc (d_38n (d := 11) hc z)) (by omega) (by omega) hk (fun h1 e => p_311e_2 r1 e) (by decide) (fun h1 q => zMC_x (e_255x (d := 53) q zx)) ho, ⟨_, rfl⟩, rfl, fun z => absurd z (by decide)⟩
  · cases hl : ylet x2 with
    | false =>
      exact ⟨2, _, _, _, _, (22, .null), by omega, zst_e T (zEnd_y hc (d_38l (d := 11) hc hi hl)) (by omega) (by omega) hk (fun h1 e => p_311e_1 r1 e) (by decide) (fun h1 q => zMC_x (e_255a (d := 53) q hi hl)) ho, ⟨_, rfl⟩, rfl, fun z => absurd z (by decide)⟩
    | true =>
      exact ⟨0, _, _, _, _, _, by omega, zst_v T (zEnd_y hc (d_38 (d := 11) hc hi hl)) (by omega) (by omega) hk (fun h1 l e q => p_311v r1 e q) (fun h1 q => zMC_x (by
        have z := e_255 (sv := sv) (d := 53) q hi hl
        rw [← yoc_ct t 0] at z
        exact z)) ho, ⟨_, rfl⟩, rfl, fun _ => ⟨_, rfl, rfl⟩⟩
theorem t_slope {x1 : Int32} {x2 : Int32} (T : zTi sv h m b xs w o2 th) : ∃ k bv w1 o3 th' out, k ≤ 4 ∧ zSt sv m b xs h (zcall zP sv 60 320 [.ref m, .int x1, .int x2, .ref (m + 137)] h) (fun h1 => zcall zP sv 60 266 [.ref (m + 119), .int x1, .int x2] h1) k bv w1 o3 th' out ∧ (∃ a0, bv = .int a0) ∧ th' = nI k ∧ (k = 0 → ∃ a : Int32, bv = .int a ∧ out = (22, .long a.toInt64)) := by
  have hc := T.1
  have hk := T.2.2.1
  have ho := T.2.2.2.1
  have r1 := zEC1 hc
  rcases ytr_or x1 T with z | ⟨i, t, rfl, hi⟩
  · have zx := yinF_no (zTi_6 T) z
    exact ⟨1, _, _, _, _, (22, .null), by omega, zst_e T (zEnd_y hc (d_47n (d := 11) hc z)) (by omega) (by omega) hk (fun h1 e => p_320e_2 r1 e) (by decide) (fun h1 q => zMC_x (e_266x (d := 53) q zx)) ho, ⟨_, rfl⟩, rfl, fun z => absurd z (by decide)⟩
  · cases hl : ylet x2 with
    | false =>
      exact ⟨2, _, _, _, _, (22, .null), by omega, zst_e T (zEnd_y hc (d_47l (d := 11) hc hi hl)) (by omega) (by omega) hk (fun h1 e => p_320e_1 r1 e) (by decide) (fun h1 q => zMC_x (e_266a (d := 53) q hi hl)) ho, ⟨_, rfl⟩, rfl, fun z => absurd z (by decide)⟩
    | true =>
      have tk := (zcur_ok hc).2.1 t (List.mem_of_getElem? hi)
      exact ⟨0, _, _, _, _, _, by omega, zst_v T (zEnd_y hc (d_47 (d := 11) hc hi hl)) (by omega) (by omega) hk (fun h1 l e q => p_320v r1 e q) (fun h1 q => zMC_x (by
        obtain ⟨N, hN, z⟩ := e_266 (sv := sv) (d := 53) q hi hl
        rw [yslo_e hN (show yAok (ycur (yso w o2)) from zcur_ok (w := w) hc) tk.1] at z
        exact z)) ho, ⟨_, rfl⟩, rfl, fun _ => ⟨_, rfl, rfl⟩⟩
theorem t_slopeByDerivative {x1 : Int32} {x2 : Int32} (T : zTi sv h m b xs w o2 th) : ∃ k bv w1 o3 th' out, k ≤ 4 ∧ zSt sv m b xs h (zcall zP sv 60 321 [.ref m, .int x1, .int x2, .ref (m + 137)] h) (fun h1 => zcall zP sv 60 267 [.ref (m + 119), .int x1, .int x2] h1) k bv w1 o3 th' out ∧ (∃ a0, bv = .int a0) ∧ th' = nI k ∧ (k = 0 → ∃ a : Int32, bv = .int a ∧ out = (22, .long a.toInt64)) := by
  have hc := T.1
  have hk := T.2.2.1
  have ho := T.2.2.2.1
  have r1 := zEC1 hc
  rcases ytr_or x1 T with z | ⟨i, t, rfl, hi⟩
  · have zx := yinF_no (zTi_6 T) z
    exact ⟨1, _, _, _, _, (22, .null), by omega, zst_e T (zEnd_y hc (d_48n (d := 11) hc z)) (by omega) (by omega) hk (fun h1 e => p_321e_2 r1 e) (by decide) (fun h1 q => zMC_x (e_267w (d := 52) q (e_266x (d := 52) q zx))) ho, ⟨_, rfl⟩, rfl, fun z => absurd z (by decide)⟩
  · cases hl : ylet x2 with
    | false =>
      exact ⟨2, _, _, _, _, (22, .null), by omega, zst_e T (zEnd_y hc (d_48l (d := 11) hc hi hl)) (by omega) (by omega) hk (fun h1 e => p_321e_1 r1 e) (by decide) (fun h1 q => zMC_x (e_267w (d := 52) q (e_266a (d := 52) q hi hl))) ho, ⟨_, rfl⟩, rfl, fun z => absurd z (by decide)⟩
    | true =>
      have tk := (zcur_ok hc).2.1 t (List.mem_of_getElem? hi)
      exact ⟨0, _, _, _, _, _, by omega, zst_v T (zEnd_y hc (d_48 (d := 11) hc hi hl)) (by omega) (by omega) hk (fun h1 l e q => p_321v r1 e q) (fun h1 q => zMC_x (by
        obtain ⟨N, hN, z⟩ := e_266 (sv := sv) (d := 52) q hi hl
        rw [yslo_e hN (show yAok (ycur (yso w o2)) from zcur_ok (w := w) hc) tk.1, show ysl2 (ycur (yso w o2)).2.1 x2 t = yfo (yfR (ycur (yso w o2)).2.1) (yder x2 t) from (yder_v tk.1).symm] at z
        exact e_267w (d := 52) q z)) ho, ⟨_, rfl⟩, rfl, fun _ => ⟨_, rfl, rfl⟩⟩
theorem t_isSame {x1 : Int32} {x2 : Int32} (T : zTi sv h m b xs w o2 th) : ∃ k bv w1 o3 th' out, k ≤ 4 ∧ zSt sv m b xs h (zcall zP sv 60 314 [.ref m, .int x1, .int x2, .ref (m + 137)] h) (fun h1 => zcall zP sv 60 259 [.ref (m + 119), .int x1, .int x2] h1) k bv w1 o3 th' out ∧ (∃ a0, bv = .int a0) ∧ th' = nI k ∧ (k = 0 → ∃ c : Bool, bv = .int (yb c) ∧ out = (22, .long (if c = true then 1 else 0))) := by
  have hc := T.1
  have hk := T.2.2.1
  have ho := T.2.2.2.1
  have r1 := zEC1 hc
  rcases ytr_or x1 T with z | ⟨i, t, rfl, hi⟩
  · have zx : (yinF (ycur w) x1 && yinF (ycur w) x2) = false := by rw [yinF_no (zTi_6 T) z, Bool.false_and]
    exact ⟨1, _, _, _, _, (22, .null), by omega, zst_e T (zEnd_y hc (d_41n (d := 11) hc z)) (by omega) (by omega) hk (fun h1 e => p_314e_2 r1 e) (by decide) (fun h1 q => zMC_x (e_259x (d := 53) q zx)) ho, ⟨_, rfl⟩, rfl, fun z => absurd z (by decide)⟩
  · rcases ytr_or x2 T with z | ⟨j, u, rfl, hj⟩
    · have zx : (yinF (ycur w) (nI i) && yinF (ycur w) x2) = false := by rw [yinF_no (zTi_6 T) z, Bool.and_false]
      exact ⟨1, _, _, _, _, (22, .null), by omega, zst_e T (zEnd_y hc (d_41m (d := 11) hc hi z)) (by omega) (by omega) hk (fun h1 e => p_314e_2 r1 e) (by decide) (fun h1 q => zMC_x (e_259x (d := 53) q zx)) ho, ⟨_, rfl⟩, rfl, fun z => absurd z (by decide)⟩
    · exact ⟨0, _, _, _, _, _, by omega, zst_v T (zEnd_y hc (d_41 (d := 11) hc hi hj)) (by omega) (by omega) hk (fun h1 l e q => p_314v r1 e q) (fun h1 q => zMC_x (by
          have z := e_259 (sv := sv) (d := 53) q hi hj
          rw [← yeq_pr ((zcur_ok hc).2.1 t (List.mem_of_getElem? hi)).1 ((zcur_ok hc).2.1 u (List.mem_of_getElem? hj)).1] at z
          exact z)) ho, ⟨_, rfl⟩, rfl, fun _ => ⟨_, rfl, rfl⟩⟩
theorem t_commonParts {x1 : Int32} {x2 : Int32} (T : zTi sv h m b xs w o2 th) : ∃ k bv w1 o3 th' out, k ≤ 4 ∧ zSt sv m b xs h (zcall zP sv 60 317 [.ref m, .int x1, .int x2, .ref (m + 137)] h) (fun h1 => zcall zP sv 60 263 [.ref (m + 119), .int x1, .int x2] h1) k bv w1 o3 th' out ∧ (∃ a0, bv = .int a0) ∧ th' = nI k ∧ (k = 0 → ∃ a : Int32, bv = .int a ∧ out = (22, .long a.toInt64)) := by
  have hc := T.1
  have hk := T.2.2.1
  have ho := T.2.2.2.1
  have r1 := zEC1 hc
  rcases ytr_or x1 T with z | ⟨i, t, rfl, hi⟩
  · have zx : (yinF (ycur w) x1 && yinF (ycur w) x2) = false := by rw [yinF_no (zTi_6 T) z, Bool.false_and]
    exact ⟨1, _, _, _, _, (22, .null), by omega, zst_e T (zEnd_y hc (d_44n (d := 11) hc z)) (by omega) (by omega) hk (fun h1 e => p_317e_2 r1 e) (by decide) (fun h1 q => zMC_x (e_263x (d := 53) q zx)) ho, ⟨_, rfl⟩, rfl, fun z => absurd z (by decide)⟩
  · rcases ytr_or x2 T with z | ⟨j, u, rfl, hj⟩
    · have zx : (yinF (ycur w) (nI i) && yinF (ycur w) x2) = false := by rw [yinF_no (zTi_6 T) z, Bool.and_false]
      exact ⟨1, _, _, _, _, (22, .null), by omega, zst_e T (zEnd_y hc (d_44m (d := 11) hc hi z)) (by omega) (by omega) hk (fun h1 e => p_317e_2 r1 e) (by decide) (fun h1 q => zMC_x (e_263x (d := 53) q zx)) ho, ⟨_, rfl⟩, rfl, fun z => absurd z (by decide)⟩
    · have tk := (zcur_ok hc).2.1 t (List.mem_of_getElem? hi)
      have uk := (zcur_ok hc).2.1 u (List.mem_of_getElem? hj)
      obtain ⟨B0, B1, hB0, hB1, zc⟩ := d_44 (sv := sv) (d := 11) hc hi hj
      rw [ycommon tk.1 tk.2.1 uk.1 uk.2.1 hB0 hB1] at zc
      exact ⟨0, _, _, _, _, _, by omega, zst_v T (zEnd_y hc (zc)) (by omega) (by omega) hk (fun h1 l e q => p_317v r1 e q) (fun h1 q => zMC_x (e_263 (d := 53) q hi hj)) ho, ⟨_, rfl⟩, rfl, fun _ => ⟨_, rfl, rfl⟩⟩
theorem ytr_in (x : Int32) (q : List yI) (hq : q.length < 2 ^ 30) : ((x < 0 ∨ ¬ x < nI q.length) ∧ yinC q x = false) ∨ ∃ n y, x = nI n ∧ q[n]? = some y ∧ yinC q (nI n) = true := by
  cases hx : yinC q x with
  | true =>
    obtain ⟨n, y, rfl, hy⟩ := yinC_n hx hq
    exact Or.inr ⟨n, y, rfl, hy, hx⟩
  | false =>
    refine Or.inl ⟨?_, rfl⟩
    rcases ycase x (n := q.length) (by omega) with z | ⟨i, hi, rfl⟩
    · exact z
    · exfalso
      have a1 : ¬ nI i < 0 := nI_pos (by omega)
      have a2 : ¬ nI q.length - nI 1 < nI i := by
        rw [show q.length = q.length - 1 + 1 by omega, nI_m]
        exact nI_nlt (by omega) (by omega)
      unfold yinC at hx
      rw [decide_eq_true a1, decide_eq_true a2] at hx
      cases hx
theorem t_instructionKind {x1 : Int32} {x2 : Int32} (T : zTi sv h m b xs w o2 th) : ∃ k bv w1 o3 th' out, k ≤ 4 ∧ zSt sv m b xs h (zcall zP sv 60 328 [.ref m, .int x1, .int x2, .ref (m + 137)] h) (fun h1 => zcall zP sv 60 278 [.ref (m + 119), .int x1, .int x2] h1) k bv w1 o3 th' out ∧ (∃ a0, bv = .int a0) ∧ th' = nI k ∧ (k = 0 → ∃ a : Int32, bv = .int a ∧ out = (22, .long a.toInt64)) := by
  have hc := T.1
  have hk := T.2.2.1
  have ho := T.2.2.2.1
  have r1 := zEC1 hc
  obtain ⟨M, h1M, hM4, hR⟩ := id hk.1
  rcases ytr_or x1 T with z | ⟨i, t, rfl, hi⟩
  · have zx := yinF_no (zTi_6 T) z
    exact ⟨1, _, _, _, _, (22, .null), by omega, zst_e T (zEnd_y hc (d_55n (d := 11) hc z)) (by omega) (by omega) hk (fun h1 e => p_328e_2 r1 e) (by decide) (fun h1 q => zMC_x (e_278x (d := 51) q hR zx)) ho, ⟨_, rfl⟩, rfl, fun z => absurd z (by decide)⟩
  · have tk := (zcur_ok hc).2.1 t (List.mem_of_getElem? hi)
    have hlen := yco_len (M := M) (ysz t) t (Nat.le_refl _) tk.1 0 0
    rcases ytr_in x2 (yco M t 0 0) (by have := tk.2.1; omega) with ⟨z, zi⟩ | ⟨n, y, rfl, hy, zi⟩
    · skip
      exact ⟨1, _, _, _, _, (22, .null), by omega, zst_e T (zEnd_y hc (d_55o (d := 11) hc hi hR h1M hM4 z)) (by omega) (by omega) hk (fun h1 e => p_328e_2 r1 e) (by decide) (fun h1 q => zMC_x (e_278o (d := 47) q hi hR h1M hM4 zi)) ho, ⟨_, rfl⟩, rfl, fun z => absurd z (by decide)⟩
    · skip
      exact ⟨0, _, _, _, _, _, by omega, zst_v T (zEnd_y hc (d_55 (d := 11) hc hi hR h1M hM4 hy)) (by omega) (by omega) hk (fun h1 l e q => p_328v r1 e q) (fun h1 q => zMC_x (e_278 (d := 47) q hi hR h1M hM4 zi hy)) ho, ⟨_, rfl⟩, rfl, fun _ => ⟨_, rfl, rfl⟩⟩
theorem t_instructionRegister {x1 : Int32} {x2 : Int32} (T : zTi sv h m b xs w o2 th) : ∃ k bv w1 o3 th' out, k ≤ 4 ∧ zSt sv m b xs h (zcall zP sv 60 329 [.ref m, .int x1, .int x2, .ref (m + 137)] h) (fun h1 => zcall zP sv 60 279 [.ref (m + 119), .int x1, .int x2] h1) k bv w1 o3 th' out ∧ (∃ a0, bv = .int a0) ∧ th' = nI k ∧ (k = 0 → ∃ a : Int32, bv = .int a ∧ out = (22, .long a.toInt64)) := by
  have hc := T.1
  have hk := T.2.2.1
  have ho := T.2.2.2.1
  have r1 := zEC1 hc
  obtain ⟨M, h1M, hM4, hR⟩ := id hk.1
  rcases ytr_or x1 T with z | ⟨i, t, rfl, hi⟩
  · have zx := yinF_no (zTi_6 T) z
    exact ⟨1, _, _, _, _, (22, .null), by omega, zst_e T (zEnd_y hc (d_56n (d := 11) hc z)) (by omega) (by omega) hk (fun h1 e => p_329e_2 r1 e) (by decide) (fun h1 q => zMC_x (e_279x (d := 51) q hR zx)) ho, ⟨_, rfl⟩, rfl, fun z => absurd z (by decide)⟩
  · have tk := (zcur_ok hc).2.1 t (List.mem_of_getElem? hi)
    have hlen := yco_len (M := M) (ysz t) t (Nat.le_refl _) tk.1 0 0
    rcases ytr_in x2 (yco M t 0 0) (by have := tk.2.1; omega) with ⟨z, zi⟩ | ⟨n, y, rfl, hy, zi⟩
    · skip
      exact ⟨1, _, _, _, _, (22, .null), by omega, zst_e T (zEnd_y hc (d_56o (d := 11) hc hi hR h1M hM4 z)) (by omega) (by omega) hk (fun h1 e => p_329e_2 r1 e) (by decide) (fun h1 q => zMC_x (e_279o (d := 47) q hi hR h1M hM4 zi)) ho, ⟨_, rfl⟩, rfl, fun z => absurd z (by decide)⟩
    · skip
      exact ⟨0, _, _, _, _, _, by omega, zst_v T (zEnd_y hc (d_56 (d := 11) hc hi hR h1M hM4 hy)) (by omega) (by omega) hk (fun h1 l e q => p_329v r1 e q) (fun h1 q => zMC_x (e_279 (d := 47) q hi hR h1M hM4 zi hy)) ho, ⟨_, rfl⟩, rfl, fun _ => ⟨_, rfl, rfl⟩⟩
theorem t_writeInstruction {x1 : Int32} {x2 : Int32} (hs : sv 0 = .int (nI 1)) (T : zTi sv h m b xs w o2 th) : ∃ k bv w1 o3 th' out, k ≤ 4 ∧ zSt sv m b xs h (zcall zP sv 60 330 [.ref m, .int x1, .int x2, .ref (m + 137)] h) (fun h1 => zcall zP sv 60 284 [.ref (m + 119), .int x1, .int x2] h1) k bv w1 o3 th' out ∧ (∃ a0, bv = .int a0) ∧ th' = nI k ∧ (k = 0 → ∃ a : Int32, bv = .int a ∧ out = (22, .long a.toInt64)) := by
  have hc := T.1
  have hk := T.2.2.1
  have ho := T.2.2.2.1
  have r1 := zEC1 hc
  obtain ⟨M, h1M, hM4, hR⟩ := id hk.1
  rcases ytr_or x1 T with z | ⟨i, t, rfl, hi⟩
  · have zx := yinF_no (zTi_6 T) z
    exact ⟨1, _, _, _, _, (22, .null), by omega, zst_e T (zEnd_y hc (d_57n (d := 11) hc z)) (by omega) (by omega) hk (fun h1 e => p_330e_2 r1 e) (by decide) (fun h1 q => zMC_x (e_284x (d := 51) q hR zx)) ho, ⟨_, rfl⟩, rfl, fun z => absurd z (by decide)⟩
  · have tk := (zcur_ok hc).2.1 t (List.mem_of_getElem? hi)
    have hlen := yco_len (M := M) (ysz t) t (Nat.le_refl _) tk.1 0 0
    rcases ytr_in x2 (yco M t 0 0) (by have := tk.2.1; omega) with ⟨z, zi⟩ | ⟨n, y, rfl, hy, zi⟩
    · skip
      exact ⟨1, _, _, _, _, (22, .null), by omega, zst_e T (zEnd_y hc (d_57o (d := 11) hc hi hR h1M hM4 z)) (by omega) (by omega) hk (fun h1 e => p_330e_2 r1 e) (by decide) (fun h1 q => zMC_x (e_284o (d := 47) q hi hR h1M hM4 zi)) ho, ⟨_, rfl⟩, rfl, fun z => absurd z (by decide)⟩
    · obtain ⟨h1, o, e1, c1, f1⟩ := d_57 (sv := sv) (d := 11) hs (zDm_g T.2.2.2.2.2.2.2 (by have := hc.1; omega)) hc hi hR h1M hM4 hy
      have T1 := zTj_c T c1 f1 hk
      obtain ⟨l, t7⟩ := T1.2.2.2.2.2.1
      have e2 := p_330v (h := h) (m := m) (o := m + 137) (D := 59) r1 e1 t7
      have T2 := zTj_o (y := (nI (ywil y)).toInt64) T1
      obtain ⟨h2, o3, e3, m2, f2, _, hch⟩ := e_284 (sv := sv) (d := 46) T2.2.1 hi hR h1M hM4 zi hy
      exact ⟨0, _, _, o3, _, (22, .long (nI (ywil y)).toInt64), by omega, ⟨_, h2, by rw [e2, nI_0], fun X => zMdl_rc T2.2.1, T2.2.2.2.2.1.2, e3, zTj_m T2 m2 f2 hch, zgr_of f1 f2.2 (by omega) (by omega), fun _ => ⟨fun _ => by rw [f2.1 _ (by omega), zup_at], fun q => (by cases q)⟩⟩, ⟨_, rfl⟩, rfl, fun _ => ⟨_, rfl, rfl⟩⟩
theorem t_writeFormula {x1 : Int32} (hs : sv 0 = .int (nI 1)) (T : zTi sv h m b xs w o2 th) : ∃ k bv w1 o3 th' out, k ≤ 4 ∧ zSt sv m b xs h (zcall zP sv 60 331 [.ref m, .int x1, .ref (m + 137)] h) (fun h1 => zcall zP sv 60 286 [.ref (m + 119), .int x1] h1) k bv w1 o3 th' out ∧ (∃ a0, bv = .int a0) := by
  have hc := T.1
  have hk := T.2.2.1
  have ho := T.2.2.2.1
  have r1 := zEC1 hc
  rcases ytr_or x1 T with z | ⟨i, t, rfl, hi⟩
  · have zx := yinF_no (zTi_6 T) z
    exact ⟨1, _, _, _, _, (22, .null), by omega, zst_e T (zEnd_y hc (d_58n (d := 11) hc z)) (by omega) (by omega) hk (fun h1 e => p_331e_2 r1 e) (by decide) (fun h1 q => zMC_x (e_286x (d := 53) q zx)) ho, ⟨_, rfl⟩⟩
  · obtain ⟨nn, h1, o, e1, c1, f1⟩ := d_58 (sv := sv) (d := 11) hs (zDm_g T.2.2.2.2.2.2.2 (by have := hc.1; omega)) hc hi
    have T1 := zTj_c T c1 f1 hk
    obtain ⟨l, t7⟩ := T1.2.2.2.2.2.1
    have e2 := p_331v (h := h) (m := m) (o := m + 137) (D := 59) r1 e1 t7
    have T2 := zTj_o (y := (nI nn).toInt64) T1
    obtain ⟨n2, _, h2, o3, e3, m2, f2, _, hch⟩ := e_286 (sv := sv) (d := 39) T2.2.1 hi
    exact ⟨0, _, _, o3, _, (22, .long (nI nn).toInt64), by omega, ⟨_, h2, by rw [e2, nI_0], fun X => zMdl_rc T2.2.1, T2.2.2.2.2.1.2, e3, zTj_m T2 m2 f2 hch, zgr_of f1 f2.2 (by omega) (by omega), fun _ => ⟨fun _ => by rw [f2.1 _ (by omega), zup_at], fun q => (by cases q)⟩⟩, _, rfl⟩
theorem ytr_o (x : Int32) (o : List Int32) (ho : o.length < 2 ^ 30) : yinO o x = false ∨ ∃ n c, x = nI n ∧ o[n]? = some c ∧ yinO o (nI n) = true := by
  cases hx : yinO o x with
  | false => exact Or.inl rfl
  | true =>
    have hx' := hx
    unfold yinO at hx
    rw [Bool.and_eq_true] at hx
    have h1 := of_decide_eq_true hx.1
    have h2 := of_decide_eq_true hx.2
    obtain ⟨n, hn, rfl⟩ := nI_of h1
    have hn2 : n < o.length := by
      refine Nat.lt_of_not_le fun z => h2 ?_
      rcases Nat.eq_zero_or_pos o.length with c | c
      · rw [c]
        exact Int32.lt_of_lt_of_le (b := 0) (by decide +kernel) (nI_pos' hn)
      · rw [show o.length = o.length - 1 + 1 by omega, nI_m]
        exact nI_lt (by omega) hn
    exact Or.inr ⟨n, _, rfl, List.getElem?_eq_getElem hn2, hx'⟩
theorem t_outputChar {x1 : Int32} (h3 : zty 4 (sv 3) = true) (T : zTi sv h m b xs w o2 th) : ∃ k bv w1 o3 th' out, k ≤ 4 ∧ zSt sv m b xs h (zcall zP sv 60 332 [.ref m, .int x1, .ref (m + 137)] h) (fun h1 => zcall zP sv 60 287 [.ref (m + 119), .int x1] h1) k bv w1 o3 th' out ∧ (∃ a0, bv = .int a0) := by
  have hc := T.1
  have hk := T.2.2.1
  have ho := T.2.2.2.1
  have r1 := zEC1 hc
  have hM : ∀ h1, zMdl h1 (m + 119) (yso w o2) th → ∃ (a : Int32) (h2 : zH) (th' : Int32), zcall zP sv 60 287 [.ref (m + 119), .int x1] h1 = some (.inl (some (.int a)), h2) ∧ zMdl h2 (m + 119) (yso w o2) th' ∧ zmw (m + 119) h1 h2 := fun h1 q => by
    have hl : (yout (yso w o2)).length ≤ 700 := by
      obtain ⟨F, _, _, _, hr, _⟩ := q
      obtain ⟨_, _, _, ⟨B, _, _, _, z⟩, _⟩ := hr
      exact z
    rcases ytr_o x1 (yout (yso w o2)) (by omega) with z | ⟨n, c, rfl, hc, z⟩
    · obtain ⟨h2, e, g1, g2⟩ := e_287x (sv := sv) (d := 58) q z
      exact ⟨_, h2, _, e, g1, g2⟩
    · obtain ⟨h2, e, g1, g2⟩ := e_287 (sv := sv) (d := 58) q z hc (ho c (List.mem_of_getElem? hc))
      exact ⟨_, h2, _, e, g1, g2⟩
  rcases ycase x1 (n := (yout w).length) (by have hb := zCls_bl hc; obtain ⟨v, B, hb, _⟩ := hb; have := hb.2.2.2.1; have := hb.2.2.2.2.2.1; omega) with z | ⟨n, hn, rfl⟩
  · obtain ⟨h1, e1, c1, f1⟩ := zEnd_y hc (d_59n (sv := sv) (d := 11) hc z)
    have T1 := zTj_c T c1 f1 hk
    have e2 := p_332e_2 (h := h) (m := m) (o := m + 137) (D := 59) r1 e1
    obtain ⟨a, h2, th', e3, m2, f2⟩ := hM _ T1.2.1
    exact ⟨1, _, _, _, _, (22, .null), by omega, ⟨_, h2, e2, fun X => zMdl_rc T1.2.1, T1.2.2.2.2.1.2, e3, zTj_m T1 m2 f2 ho, zgr_of f1 f2.2 (by omega) (by omega), fun z => absurd z (by decide)⟩, _, rfl⟩
  · obtain ⟨c, zc⟩ := d_59 (sv := sv) (d := 11) h3 hc hn
    obtain ⟨h1, e1, c1, f1⟩ := zEnd_y hc zc
    have T1 := zTj_c T c1 f1 hk
    obtain ⟨l, t7⟩ := T1.2.2.2.2.2.1
    have e2 := p_332v (h := h) (m := m) (o := m + 137) (D := 59) r1 e1 t7
    have T2 := zTj_o (y := c.toInt64) T1
    obtain ⟨a, h2, th', e3, m2, f2⟩ := hM _ T2.2.1
    exact ⟨0, _, _, _, _, (22, .long c.toInt64), by omega, ⟨_, h2, by rw [e2, nI_0], fun X => zMdl_rc T2.2.1, T2.2.2.2.2.1.2, e3, zTj_m T2 m2 f2 ho, zgr_of f1 f2.2 (by omega) (by omega), fun _ => ⟨fun _ => by rw [f2.1 _ (by omega), zup_at], fun q => (by cases q)⟩⟩, _, rfl⟩
theorem t_formulaBySize {x1 : Int32} (T : zTi sv h m b xs w o2 th) : ∃ k bv w1 o3 th' out, k ≤ 4 ∧ zSt sv m b xs h (zcall zP sv 60 333 [.ref m, .int x1, .ref (m + 137)] h) (fun h1 => zcall zP sv 60 289 [.ref (m + 119), .int x1] h1) k bv w1 o3 th' out ∧ (∃ a0, bv = .int a0) ∧ th' = nI k ∧ (k = 0 → ∃ a : Int32, bv = .int a ∧ out = (22, .long a.toInt64)) := by
  have hc := T.1
  have hk := T.2.2.1
  have ho := T.2.2.2.1
  have r1 := zEC1 hc
  cases hy : yrk (ycur w).1 x1 0 (ycur w).1.length with
  | some c =>
    have e := fun h1 (q : zMdl h1 (m + 119) (yso w o2) th) => e_289 (sv := sv) (d := 52) (x := x1) q
    have hy' : yrk (ycur (yso w o2)).1 x1 0 (ycur (yso w o2)).1.length = some c := hy
    rw [hy'] at e
    exact ⟨0, _, _, _, _, _, by omega, zst_v T (zEnd_y hc (d_60k (d := 11) hc hy)) (by omega) (by omega) hk (fun h1 l e q => p_333v r1 e q) (fun h1 q => zMC_x (e h1 q)) ho, ⟨_, rfl⟩, rfl, fun _ => ⟨_, rfl, rfl⟩⟩
  | none =>
    have e := fun h1 (q : zMdl h1 (m + 119) (yso w o2) th) => e_289 (sv := sv) (d := 52) (x := x1) q
    have hy' : yrk (ycur (yso w o2)).1 x1 0 (ycur (yso w o2)).1.length = none := hy
    rw [hy'] at e
    exact ⟨1, _, _, _, _, (22, .null), by omega, zst_e T (zEnd_y hc (d_60n (d := 11) hc hy)) (by omega) (by omega) hk (fun h1 e => p_333e_4 r1 e) (by decide) (fun h1 q => zMC_x (e h1 q)) ho, ⟨_, rfl⟩, rfl, fun z => absurd z (by decide)⟩
theorem t_meanNodes (T : zTi sv h m b xs w o2 th) : ∃ k bv w1 o3 th' out, k ≤ 4 ∧ zSt sv m b xs h (zcall zP sv 60 334 [.ref m, .ref (m + 138)] h) (fun h1 => zcall zP sv 60 291 [.ref (m + 119)] h1) k bv w1 o3 th' out ∧ (∃ a0, bv = .double a0) ∧ th' = nI k ∧ (k = 0 → ∃ y : UInt64, bv = .double y ∧ out = (23, .double y)) := by
  have hc := T.1
  have hk := T.2.2.1
  have ho := T.2.2.2.1
  have r1 := zEC1 hc
  by_cases hn : (ycur w).1.length = 0
  · exact ⟨1, _, _, _, _, (23, .null), by omega, zst_e T (zEnd_y hc (d_62n (d := 11) hc hn)) (by omega) (by omega) hk (fun h1 e => p_334e_5 r1 e) (by decide) (fun h1 q => e_291n (d := 58) q hn) ho, ⟨_, rfl⟩, rfl, fun z => absurd z (by decide)⟩
  · exact ⟨0, _, _, _, _, _, by omega, zst_d T (zEnd_y hc (d_62 (d := 11) hc (by omega))) (by omega) (by omega) hk (fun h1 l e q => p_334v r1 e q) (fun h1 q => e_291 (d := 58) q (show 0 < (ycur (yso w o2)).1.length by show 0 < (ycur w).1.length; omega)) ho, ⟨_, rfl⟩, rfl, fun _ => ⟨_, rfl, rfl⟩⟩
end ZSI

section ZSJ
variable {sv : Nat → Value} {m b : Nat} {xs : List Int32} {h : zH} {w : yW} {o2 : List Int32} {th : Int32}
theorem ylti {l : List yT} {i : Nat} {t : yT} (hi : l[i]? = some t) : i < l.length := (List.getElem?_eq_some_iff.mp hi).1
theorem yreg4 {x : Int32} (q1 : ¬ x < nI 1) (q2 : ¬ nI 4 < x) : ∃ M, 1 ≤ M ∧ M ≤ 4 ∧ x = nI M := by
  rcases ycase x (n := 5) (by omega) with z | ⟨i, hi, rfl⟩
  · exfalso
    rcases z with z | z
    · exact q1 (Int32.lt_trans z (by decide +kernel))
    · have a1 := Int32.not_lt.mp q2
      exact z (Int32.lt_of_le_of_lt a1 (by decide +kernel))
  · refine ⟨i, ?_, by omega, rfl⟩
    refine Nat.le_of_not_lt fun z => q1 ?_
    exact nI_lt z (by omega)
theorem zbu_le (hc : zCls h m w) : w.1.length ≤ 60 := by
  obtain ⟨_, _, _, _, _, ⟨pos, ns, _, hi, _⟩, _⟩ := hc
  exact hi.2.2.1
theorem yadd_le (hc : zCls h m w) : (yadd w.1).2 ≤ 60 := by
  have h6 := zbu_le hc
  obtain ⟨_, _, _, _, _, ⟨pos, ns, hp⟩, _⟩ := hc
  obtain ⟨_, _, _, _, _, _, _, z, _⟩ := d_152 (sv := fun _ => .int 0) (d := 0) hp
  omega
theorem zkep_ok (hc : zCls h m w) : yAok (ykep w) := by
  obtain ⟨_, _, _, ⟨S, _, s⟩, _⟩ := hc
  exact s.2.2
theorem zhis_ok (hc : zCls h m w) {A : yA} {HA : List yA} (hk : yhis w = A :: HA) : yAok A := by
  obtain ⟨_, _, _, _, ⟨H, _, hl, hs⟩, _⟩ := hc
  have hk' : w.2.2.2.2.2.1 = A :: HA := hk
  rw [hk'] at hl hs
  cases H with
  | nil => cases hl
  | cons S H => exact (hs 0 S A rfl rfl).2.2

theorem t_feed {x1 : Int32} (T : zTi sv h m b xs w o2 th) : ∃ k bv w1 o3 th' out, k ≤ 4 ∧ zSt sv m b xs h (zcall zP sv 60 300 [.ref m, .int x1, .ref (m + 137)] h) (fun h1 => zcall zP sv 60 231 [.ref (m + 119), .int x1] h1) k bv w1 o3 th' out ∧ (∃ a0, bv = .int a0) ∧ th' = nI k ∧ (k = 0 → ∃ a : Int32, bv = .int a ∧ out = (22, .long a.toInt64)) := by
  have hc := T.1
  have hk := T.2.2.1
  have ho := T.2.2.2.1
  have r1 := zEC1 hc
  have h6 := zbu_le hc
  have e := d_24 (sv := sv) (d := 56) (x := x1) hc
  by_cases hl : w.1.length < 60
  · rw [if_pos hl, if_pos hl] at e
    exact ⟨0, _, _, o2, _, _, by omega, zst_v T (zEnd_y hc (e)) (by omega) (by omega) (hk) (fun h1 l e q => p_300v r1 e q) (fun h1 q => zMC_x (e_231 (w := yso w o2) (d := 57) q hl)) ho, ⟨_, rfl⟩, rfl, fun _ => ⟨_, rfl, rfl⟩⟩
  · rw [if_neg hl, if_neg hl] at e
    exact ⟨1, _, _, o2, _, (22, .null), by omega, zst_e T (zEnd_y hc (e)) (by omega) (by omega) (hk) (fun h1 e => p_300e_0 r1 e) (by decide) (fun h1 q => zMC_x (e_231x (w := yso w o2) (d := 57) q (show w.1.length = 60 by omega))) ho, ⟨_, rfl⟩, rfl, fun z => absurd z (by decide)⟩
theorem t_addFormula (T : zTi sv h m b xs w o2 th) : ∃ k bv w1 o3 th' out, k ≤ 4 ∧ zSt sv m b xs h (zcall zP sv 60 301 [.ref m, .ref (m + 137)] h) (fun h1 => zcall zP sv 60 235 [.ref (m + 119)] h1) k bv w1 o3 th' out ∧ (∃ a0, bv = .int a0) ∧ th' = nI k ∧ (k = 0 → ∃ a : Int32, bv = .int a ∧ out = (22, .long a.toInt64)) := by
  have hc := T.1
  have hk := T.2.2.1
  have ho := T.2.2.2.1
  have r1 := zEC1 hc
  have e := d_26 (sv := sv) (d := 12) hc
  have h6 := zTi_6 T
  have hp := yadd_le hc
  unfold yaddF at e
  cases hn : (yadd w.1).1 with
  | none =>
    rw [hn] at e
    exact ⟨1, _, _, o2, _, (22, .null), by omega, zst_e T (zEnd_y hc (e)) (by omega) (by omega) (⟨hk.1, hk.2.1, hk.2.2.1, Or.inr (nI_pos (by omega))⟩) (fun h1 e => p_301e_1 r1 e) (by decide) (fun h1 q => zMC_x (e_235n (w := yso w o2) (d := 15) q hn)) ho, ⟨_, rfl⟩, rfl, fun z => absurd z (by decide)⟩
  | some t =>
    rw [hn] at e
    by_cases hl : (ycur w).1.length = 6
    · simp only [hl, if_true] at e
      exact ⟨2, _, _, o2, _, (22, .null), by omega, zst_e T (zEnd_y hc (e)) (by omega) (by omega) (hk) (fun h1 e => p_301e_0 r1 e) (by decide) (fun h1 q => zMC_x (e_235f (w := yso w o2) (d := 15) q hn hl)) ho, ⟨_, rfl⟩, rfl, fun z => absurd z (by decide)⟩
    · by_cases hb : ysz t ≤ 31 ∧ ydp t ≤ 8
      · simp only [hl, hb, and_self, if_true, if_false] at e
        exact ⟨0, _, _, o2, _, _, by omega, zst_v T (zEnd_y hc (e)) (by omega) (by omega) (yWok_w (w := w) hk hk.1 rfl rfl rfl) (fun h1 l e q => p_301v r1 e q) (fun h1 q => zMC_x (e_235 (w := yso w o2) (d := 15) q hn (show (ycur w).1.length < 6 by omega) hb)) ho, ⟨_, rfl⟩, rfl, fun _ => ⟨_, rfl, rfl⟩⟩
      · simp only [hl, hb, if_false] at e
        exact ⟨3, _, _, o2, _, (22, .null), by omega, zst_e T (zEnd_y hc (e)) (by omega) (by omega) (hk) (fun h1 e => p_301e_3 r1 e) (by decide) (fun h1 q => zMC_x (e_235b (w := yso w o2) (d := 15) q hn (show (ycur w).1.length < 6 by omega) hb)) ho, ⟨_, rfl⟩, rfl, fun z => absurd z (by decide)⟩
theorem t_removeFormula {x1 : Int32} (T : zTi sv h m b xs w o2 th) : ∃ k bv w1 o3 th' out, k ≤ 4 ∧ zSt sv m b xs h (zcall zP sv 60 302 [.ref m, .int x1, .ref (m + 137)] h) (fun h1 => zcall zP sv 60 237 [.ref (m + 119), .int x1] h1) k bv w1 o3 th' out ∧ (∃ a0, bv = .int a0) ∧ th' = nI k ∧ (k = 0 → ∃ a : Int32, bv = .int a ∧ out = (22, .long a.toInt64)) := by
  have hc := T.1
  have hk := T.2.2.1
  have ho := T.2.2.2.1
  have r1 := zEC1 hc
  rcases ytr_or x1 T with z | ⟨i, t, rfl, hi⟩
  · have zx := yinF_no (zTi_6 T) z
    exact ⟨1, _, _, o2, _, (22, .null), by omega, zst_e T (zEnd_y hc (d_27n (d := 53) hc z)) (by omega) (by omega) (hk) (fun h1 e => p_302e_2 r1 e) (by decide) (fun h1 q => zMC_x (e_237x (w := yso w o2) (d := 35) q zx)) ho, ⟨_, rfl⟩, rfl, fun z => absurd z (by decide)⟩
  · exact ⟨0, _, _, o2, _, _, by omega, zst_v T (zEnd_y hc (d_27 (d := 53) hc (ylti hi))) (by omega) (by omega) (yWok_w hk hk.1 rfl rfl rfl) (fun h1 l e q => p_302v r1 e q) (fun h1 q => zMC_x (e_237 (w := yso w o2) (d := 35) q (ylti hi))) ho, ⟨_, rfl⟩, rfl, fun _ => ⟨_, rfl, rfl⟩⟩
theorem t_simplify {x1 : Int32} (T : zTi sv h m b xs w o2 th) : ∃ k bv w1 o3 th' out, k ≤ 4 ∧ zSt sv m b xs h (zcall zP sv 60 303 [.ref m, .int x1, .ref (m + 137)] h) (fun h1 => zcall zP sv 60 239 [.ref (m + 119), .int x1] h1) k bv w1 o3 th' out ∧ (∃ a0, bv = .int a0) ∧ th' = nI k ∧ (k = 0 → ∃ a : Int32, bv = .int a ∧ out = (22, .long a.toInt64)) := by
  have hc := T.1
  have hk := T.2.2.1
  have ho := T.2.2.2.1
  have r1 := zEC1 hc
  rcases ytr_or x1 T with z | ⟨i, t, rfl, hi⟩
  · have zx := yinF_no (zTi_6 T) z
    exact ⟨1, _, _, o2, _, (22, .null), by omega, zst_e T (zEnd_y hc (d_28n (d := 12) hc z)) (by omega) (by omega) (hk) (fun h1 e => p_303e_2 r1 e) (by decide) (fun h1 q => zMC_x (e_239x (w := yso w o2) (d := 35) q zx)) ho, ⟨_, rfl⟩, rfl, fun z => absurd z (by decide)⟩
  · exact ⟨0, _, _, o2, _, _, by omega, zst_v T (zEnd_y hc (d_28 (d := 12) hc hi)) (by omega) (by omega) (yWok_w hk hk.1 rfl rfl rfl) (fun h1 l e q => p_303v r1 e q) (fun h1 q => zMC_x (e_239 (w := yso w o2) (d := 35) q hi)) ho, ⟨_, rfl⟩, rfl, fun _ => ⟨_, rfl, rfl⟩⟩
theorem t_differentiate {x1 : Int32} {x2 : Int32} (T : zTi sv h m b xs w o2 th) : ∃ k bv w1 o3 th' out, k ≤ 4 ∧ zSt sv m b xs h (zcall zP sv 60 304 [.ref m, .int x1, .int x2, .ref (m + 137)] h) (fun h1 => zcall zP sv 60 241 [.ref (m + 119), .int x1, .int x2] h1) k bv w1 o3 th' out ∧ (∃ a0, bv = .int a0) ∧ th' = nI k ∧ (k = 0 → ∃ a : Int32, bv = .int a ∧ out = (22, .long a.toInt64)) := by
  have hc := T.1
  have hk := T.2.2.1
  have ho := T.2.2.2.1
  have r1 := zEC1 hc
  rcases ytr_or x1 T with z | ⟨i, t, rfl, hi⟩
  · have zx := yinF_no (zTi_6 T) z
    exact ⟨1, _, _, o2, _, (22, .null), by omega, zst_e T (zEnd_y hc (d_29n (d := 11) hc z)) (by omega) (by omega) (hk) (fun h1 e => p_304e_2 r1 e) (by decide) (fun h1 q => zMC_x (e_241x (w := yso w o2) (d := 35) q zx)) ho, ⟨_, rfl⟩, rfl, fun z => absurd z (by decide)⟩
  · have e := d_29 (sv := sv) (d := 11) (c := x2) hc hi
    have h6 := zTi_6 T
    unfold yderF at e
    cases hl : ylet x2 with
    | false =>
      simp only [hl, if_true] at e
      exact ⟨2, _, _, o2, _, (22, .null), by omega, zst_e T (zEnd_y hc (e)) (by omega) (by omega) (hk) (fun h1 e => p_304e_1 r1 e) (by decide) (fun h1 q => zMC_x (e_241a (w := yso w o2) (d := 35) q (ylti hi) hl)) ho, ⟨_, rfl⟩, rfl, fun z => absurd z (by decide)⟩
    | true =>
      by_cases h7 : (ycur w).1.length = 6
      · simp only [hl, h7, Bool.true_eq_false, if_true, if_false] at e
        exact ⟨3, _, _, o2, _, (22, .null), by omega, zst_e T (zEnd_y hc (e)) (by omega) (by omega) (hk) (fun h1 e => p_304e_0 r1 e) (by decide) (fun h1 q => zMC_x (e_241b (w := yso w o2) (d := 35) q (ylti hi) hl h7)) ho, ⟨_, rfl⟩, rfl, fun z => absurd z (by decide)⟩
      · by_cases hb : ysz (ysim (yder x2 t)) ≤ 31 ∧ ydp (ysim (yder x2 t)) ≤ 8
        · simp only [hl, h7, hb, and_self, Bool.true_eq_false, if_true, if_false] at e
          exact ⟨0, _, _, o2, _, _, by omega, zst_v T (zEnd_y hc (e)) (by omega) (by omega) (yWok_w hk hk.1 rfl rfl rfl) (fun h1 l e q => p_304v r1 e q) (fun h1 q => zMC_x (e_241 (w := yso w o2) (d := 35) q hi hl (show (ycur w).1.length < 6 by omega) hb)) ho, ⟨_, rfl⟩, rfl, fun _ => ⟨_, rfl, rfl⟩⟩
        · simp only [hl, h7, hb, Bool.true_eq_false, if_false] at e
          exact ⟨4, _, _, o2, _, (22, .null), by omega, zst_e T (zEnd_y hc (e)) (by omega) (by omega) (hk) (fun h1 e => p_304e_3 r1 e) (by decide) (fun h1 q => zMC_x (e_241c (w := yso w o2) (d := 35) q hi hl (show (ycur w).1.length < 6 by omega) hb)) ho, ⟨_, rfl⟩, rfl, fun z => absurd z (by decide)⟩
theorem t_substitute {x1 : Int32} {x2 : Int32} {x3 : Int32} (T : zTi sv h m b xs w o2 th) : ∃ k bv w1 o3 th' out, k ≤ 4 ∧ zSt sv m b xs h (zcall zP sv 60 305 [.ref m, .int x1, .int x2, .int x3, .ref (m + 137)] h) (fun h1 => zcall zP sv 60 244 [.ref (m + 119), .int x1, .int x2, .int x3] h1) k bv w1 o3 th' out ∧ (∃ a0, bv = .int a0) ∧ th' = nI k ∧ (k = 0 → ∃ a : Int32, bv = .int a ∧ out = (22, .long a.toInt64)) := by
  have hc := T.1
  have hk := T.2.2.1
  have ho := T.2.2.2.1
  have r1 := zEC1 hc
  rcases ytr_or x1 T with z | ⟨i, t, rfl, hi⟩
  · have zx : (yinF (ycur w) x1 && yinF (ycur w) x3) = false := by rw [yinF_no (zTi_6 T) z, Bool.false_and]
    exact ⟨1, _, _, o2, _, (22, .null), by omega, zst_e T (zEnd_y hc (d_30n (d := 11) hc z)) (by omega) (by omega) (hk) (fun h1 e => p_305e_2 r1 e) (by decide) (fun h1 q => zMC_x (e_244x (w := yso w o2) (d := 35) q zx)) ho, ⟨_, rfl⟩, rfl, fun z => absurd z (by decide)⟩
  · rcases ytr_or x3 T with z | ⟨j, u, rfl, hj⟩
    · have zx : (yinF (ycur w) (nI i) && yinF (ycur w) x3) = false := by rw [yinF_no (zTi_6 T) z, Bool.and_false]
      exact ⟨1, _, _, o2, _, (22, .null), by omega, zst_e T (zEnd_y hc (d_30m (d := 11) hc hi z)) (by omega) (by omega) (hk) (fun h1 e => p_305e_2 r1 e) (by decide) (fun h1 q => zMC_x (e_244x (w := yso w o2) (d := 35) q zx)) ho, ⟨_, rfl⟩, rfl, fun z => absurd z (by decide)⟩
    · have e := d_30 (sv := sv) (d := 11) (c := x2) hc hi hj
      unfold yinsF at e
      cases hl : ylet x2 with
      | false =>
        simp only [hl, if_true] at e
        exact ⟨2, _, _, o2, _, (22, .null), by omega, zst_e T (zEnd_y hc (e)) (by omega) (by omega) (hk) (fun h1 e => p_305e_1 r1 e) (by decide) (fun h1 q => zMC_x (e_244a (w := yso w o2) (d := 35) q (ylti hi) (ylti hj) hl)) ho, ⟨_, rfl⟩, rfl, fun z => absurd z (by decide)⟩
      | true =>
        by_cases hb : ysz (yins x2 u t) ≤ 31 ∧ ydp (yins x2 u t) ≤ 8
        · simp only [hl, hb, and_self, Bool.true_eq_false, if_true, if_false] at e
          exact ⟨0, _, _, o2, _, _, by omega, zst_v T (zEnd_y hc (e)) (by omega) (by omega) (yWok_w hk hk.1 rfl rfl rfl) (fun h1 l e q => p_305v r1 e q) (fun h1 q => zMC_x (e_244 (w := yso w o2) (d := 35) q hi hj hl hb)) ho, ⟨_, rfl⟩, rfl, fun _ => ⟨_, rfl, rfl⟩⟩
        · simp only [hl, hb, Bool.true_eq_false, if_false] at e
          exact ⟨3, _, _, o2, _, (22, .null), by omega, zst_e T (zEnd_y hc (e)) (by omega) (by omega) (hk) (fun h1 e => p_305e_3 r1 e) (by decide) (fun h1 q => zMC_x (e_244b (w := yso w o2) (d := 35) q hi hj hl hb)) ho, ⟨_, rfl⟩, rfl, fun z => absurd z (by decide)⟩
theorem t_setVariable {x1 : Int32} {x2 : Int32} (T : zTi sv h m b xs w o2 th) : ∃ k bv w1 o3 th' out, k ≤ 4 ∧ zSt sv m b xs h (zcall zP sv 60 306 [.ref m, .int x1, .int x2, .ref (m + 137)] h) (fun h1 => zcall zP sv 60 246 [.ref (m + 119), .int x1, .int x2] h1) k bv w1 o3 th' out ∧ (∃ a0, bv = .int a0) ∧ th' = nI k ∧ (k = 0 → ∃ a : Int32, bv = .int a ∧ out = (22, .long a.toInt64)) := by
  have hc := T.1
  have hk := T.2.2.1
  have ho := T.2.2.2.1
  have r1 := zEC1 hc
  cases hb : (ylet x1 && (decide (¬ x2 < -999) && decide (¬ nI 999 < x2))) with
  | false =>
    exact ⟨1, _, _, o2, _, (22, .null), by omega, zst_e T (zEnd_y hc (d_31n (d := 53) hc (by
      cases hl : ylet x1 with
      | false => exact Or.inl rfl
      | true =>
        rw [hl, Bool.true_and, Bool.and_eq_false_iff] at hb
        refine Or.inr (hb.imp (fun z => ?_) (fun z => ?_))
        · exact Decidable.byContradiction fun n => by simp [n] at z
        · exact Decidable.byContradiction fun n => by simp [n] at z))) (by omega) (by omega) (hk) (fun h1 e => p_306e_1 r1 e) (by decide) (fun h1 q => zMC_x (e_246x (w := yso w o2) (d := 35) q hb)) ho, ⟨_, rfl⟩, rfl, fun z => absurd z (by decide)⟩
  | true =>
    have hb2 := hb
    rw [Bool.and_eq_true, Bool.and_eq_true] at hb2
    exact ⟨0, _, _, o2, _, _, by omega, zst_v T (zEnd_y hc (d_31 (d := 53) hc hb2.1 (of_decide_eq_true hb2.2.1) (of_decide_eq_true hb2.2.2))) (by omega) (by omega) (yWok_w hk hk.1 rfl rfl rfl) (fun h1 l e q => p_306v r1 e q) (fun h1 q => zMC_x (e_246 (w := yso w o2) (d := 35) q hb)) ho, ⟨_, rfl⟩, rfl, fun _ => ⟨_, rfl, rfl⟩⟩
theorem t_setRegisters {x1 : Int32} (T : zTi sv h m b xs w o2 th) : ∃ k bv w1 o3 th' out, k ≤ 4 ∧ zSt sv m b xs h (zcall zP sv 60 307 [.ref m, .int x1, .ref (m + 137)] h) (fun h1 => zcall zP sv 60 248 [.ref (m + 119), .int x1] h1) k bv w1 o3 th' out ∧ (∃ a0, bv = .int a0) ∧ th' = nI k ∧ (k = 0 → ∃ a : Int32, bv = .int a ∧ out = (22, .long a.toInt64)) := by
  have hc := T.1
  have hk := T.2.2.1
  have ho := T.2.2.2.1
  have r1 := zEC1 hc
  cases hb : (decide (¬ x1 < nI 1) && decide (¬ nI 4 < x1)) with
  | false =>
    exact ⟨1, _, _, o2, _, (22, .null), by omega, zst_e T (zEnd_y hc (d_32n (d := 53) hc (by
      rw [Bool.and_eq_false_iff] at hb
      refine hb.imp (fun z => ?_) (fun z => ?_)
      · exact Decidable.byContradiction fun n => by simp [n] at z
      · exact Decidable.byContradiction fun n => by simp [n] at z))) (by omega) (by omega) (hk) (fun h1 e => p_307e_1 r1 e) (by decide) (fun h1 q => zMC_x (e_248x (w := yso w o2) (d := 35) q hb)) ho, ⟨_, rfl⟩, rfl, fun z => absurd z (by decide)⟩
  | true =>
    have hb2 := hb
    rw [Bool.and_eq_true] at hb2
    have q1 := of_decide_eq_true hb2.1
    have q2 := of_decide_eq_true hb2.2
    have hr : ∃ M, 1 ≤ M ∧ M ≤ 4 ∧ x1 = nI M := yreg4 q1 q2
    exact ⟨0, _, _, o2, _, _, by omega, zst_v T (zEnd_y hc (d_32 (d := 53) hc q1 q2)) (by omega) (by omega) (yWok_w hk hr rfl rfl rfl) (fun h1 l e q => p_307v r1 e q) (fun h1 q => zMC_x (e_248 (w := yso w o2) (d := 35) q hb)) ho, ⟨_, rfl⟩, rfl, fun _ => ⟨_, rfl, rfl⟩⟩
theorem t_variable {x1 : Int32} (T : zTi sv h m b xs w o2 th) : ∃ k bv w1 o3 th' out, k ≤ 4 ∧ zSt sv m b xs h (zcall zP sv 60 308 [.ref m, .int x1, .ref (m + 137)] h) (fun h1 => zcall zP sv 60 250 [.ref (m + 119), .int x1] h1) k bv w1 o3 th' out ∧ (∃ a0, bv = .int a0) ∧ th' = nI k ∧ (k = 0 → ∃ a : Int32, bv = .int a ∧ out = (22, .long a.toInt64)) := by
  have hc := T.1
  have hk := T.2.2.1
  have ho := T.2.2.2.1
  have r1 := zEC1 hc
  cases hl : ylet x1 with
  | false =>
    exact ⟨1, _, _, o2, _, (22, .null), by omega, zst_e T (zEnd_y hc (d_34n (d := 11) hc hl)) (by omega) (by omega) (hk) (fun h1 e => p_308e_1 r1 e) (by decide) (fun h1 q => zMC_x (e_250x (w := yso w o2) (d := 53) q hl)) ho, ⟨_, rfl⟩, rfl, fun z => absurd z (by decide)⟩
  | true =>
    exact ⟨0, _, _, o2, _, _, by omega, zst_v T (zEnd_y hc (d_34 (d := 11) hc hl)) (by omega) (by omega) (hk) (fun h1 l e q => p_308v r1 e q) (fun h1 q => zMC_x (e_250 (w := yso w o2) (d := 53) q hl)) ho, ⟨_, rfl⟩, rfl, fun _ => ⟨_, rfl, rfl⟩⟩
theorem t_errorPosition (T : zTi sv h m b xs w o2 th) : ∃ k bv w1 o3 th' out, k ≤ 4 ∧ zSt sv m b xs h (zcall zP sv 60 336 [.ref m, .ref (m + 137)] h) (fun h1 => zcall zP sv 60 294 [.ref (m + 119)] h1) k bv w1 o3 th' out ∧ (∃ a0, bv = .int a0) ∧ th' = nI k ∧ (k = 0 → ∃ a : Int32, bv = .int a ∧ out = (22, .long a.toInt64)) := by
  have hc := T.1
  have hk := T.2.2.1
  have ho := T.2.2.2.1
  have r1 := zEC1 hc
  by_cases he : w.2.1 = -1
  · exact ⟨1, _, _, o2, _, (22, .null), by omega, zst_e T (zEnd_y hc (d_65n (d := 11) hc he)) (by omega) (by omega) (hk) (fun h1 e => p_336e_4 r1 e) (by decide) (fun h1 q => zMC_x (e_294n (w := yso w o2) (d := 57) q he)) ho, ⟨_, rfl⟩, rfl, fun z => absurd z (by decide)⟩
  · exact ⟨0, _, _, o2, _, _, by omega, zst_v T (zEnd_y hc (d_65 (d := 11) hc he)) (by omega) (by omega) (hk) (fun h1 l e q => p_336v r1 e q) (fun h1 q => zMC_x (e_294 (w := yso w o2) (d := 57) q (hk.2.2.2.resolve_left he))) ho, ⟨_, rfl⟩, rfl, fun _ => ⟨_, rfl, rfl⟩⟩
theorem t_undo (T : zTi sv h m b xs w o2 th) : ∃ k bv w1 o3 th' out, k ≤ 4 ∧ zSt sv m b xs h (zcall zP sv 60 337 [.ref m, .ref (m + 137)] h) (fun h1 => zcall zP sv 60 296 [.ref (m + 119)] h1) k bv w1 o3 th' out ∧ (∃ a0, bv = .int a0) ∧ th' = nI k ∧ (k = 0 → ∃ a : Int32, bv = .int a ∧ out = (22, .long a.toInt64)) := by
  have hc := T.1
  have hk := T.2.2.1
  have ho := T.2.2.2.1
  have r1 := zEC1 hc
  cases hh : yhis w with
  | nil =>
    exact ⟨1, _, _, o2, _, (22, .null), by omega, zst_e T (zEnd_y hc (d_67n (d := 53) hc hh)) (by omega) (by omega) (hk) (fun h1 e => p_337e_0 r1 e) (by decide) (fun h1 q => zMC_x (e_296n (w := yso w o2) (d := 57) q hh)) ho, ⟨_, rfl⟩, rfl, fun z => absurd z (by decide)⟩
  | cons A HA =>
    exact ⟨0, _, _, o2, _, _, by omega, zst_v T (zEnd_y hc (d_67 (d := 53) hc hh)) (by omega) (by omega) (⟨hk.2.2.1 A (by rw [hh]; exact List.mem_cons_self), hk.2.1, fun B hB => hk.2.2.1 B (by rw [hh]; exact List.mem_cons_of_mem _ hB), hk.2.2.2⟩) (fun h1 l e q => p_337v r1 e q) (fun h1 q => zMC_x (e_296 (w := yso w o2) (d := 57) q hh (show yAok A from zhis_ok hc hh))) ho, ⟨_, rfl⟩, rfl, fun _ => ⟨_, rfl, rfl⟩⟩
theorem t_restore (T : zTi sv h m b xs w o2 th) : ∃ k bv w1 o3 th' out, k ≤ 4 ∧ zSt sv m b xs h (zcall zP sv 60 338 [.ref m, .ref (m + 137)] h) (fun h1 => zcall zP sv 60 298 [.ref (m + 119)] h1) k bv w1 o3 th' out ∧ (∃ a0, bv = .int a0) ∧ th' = nI k ∧ (k = 0 → ∃ a : Int32, bv = .int a ∧ out = (22, .long a.toInt64)) := by
  have hc := T.1
  have hk := T.2.2.1
  have ho := T.2.2.2.1
  have r1 := zEC1 hc
  cases hh : w.2.2.1 with
  | false =>
    exact ⟨1, _, _, o2, _, (22, .null), by omega, zst_e T (zEnd_y hc (d_69n (d := 53) hc hh)) (by omega) (by omega) (hk) (fun h1 e => p_338e_0 r1 e) (by decide) (fun h1 q => zMC_x (e_298n (w := yso w o2) (d := 57) q hh)) ho, ⟨_, rfl⟩, rfl, fun z => absurd z (by decide)⟩
  | true =>
    exact ⟨0, _, _, o2, _, _, by omega, zst_v T (zEnd_y hc (d_69 (d := 53) hc hh)) (by omega) (by omega) (⟨hk.2.1, hk.2.1, fun B hB => absurd hB List.not_mem_nil, hk.2.2.2⟩) (fun h1 l e q => p_338v r1 e q) (fun h1 q => zMC_x (e_298 (w := yso w o2) (d := 57) q hh (show yAok (ykep w) from zkep_ok hc))) ho, ⟨_, rfl⟩, rfl, fun _ => ⟨_, rfl, rfl⟩⟩
theorem t_clearBuffer (T : zTi sv h m b xs w o2 th) : ∃ v w1 o3 th', zSq sv m b xs h (zcall zP sv 60 25 [.ref m] h) (fun h1 => zcall zP sv 60 232 [.ref (m + 119)] h1) (.int v) (.int v) w1 o3 th' := by
  have hc := T.1
  have hk := T.2.2.1
  have ho := T.2.2.2.1
  exact ⟨_, _, o2, _, zsq_v T (zEnd_y hc (d_25 (d := 57) hc)) (by omega) (by omega) (hk) (fun h1 q => zMC_x (e_232 (w := yso w o2) (d := 57) q)) ho⟩
theorem t_formulaCount (T : zTi sv h m b xs w o2 th) : ∃ v w1 o3 th', zSq sv m b xs h (zcall zP sv 60 33 [.ref m] h) (fun h1 => zcall zP sv 60 249 [.ref (m + 119)] h1) (.int v) (.int v) w1 o3 th' := by
  have hc := T.1
  have hk := T.2.2.1
  have ho := T.2.2.2.1
  exact ⟨_, _, o2, _, zsq_v T (zEnd_y hc (d_33 (d := 12) hc)) (by omega) (by omega) (hk) (fun h1 q => zMC_x (e_249 (w := yso w o2) (d := 57) q)) ho⟩
theorem t_registers (T : zTi sv h m b xs w o2 th) : ∃ v w1 o3 th', zSq sv m b xs h (zcall zP sv 60 35 [.ref m] h) (fun h1 => zcall zP sv 60 251 [.ref (m + 119)] h1) (.int v) (.int v) w1 o3 th' := by
  have hc := T.1
  have hk := T.2.2.1
  have ho := T.2.2.2.1
  exact ⟨_, _, o2, _, zsq_v T (zEnd_y hc (d_35 (d := 12) hc)) (by omega) (by omega) (hk) (fun h1 q => zMC_x (e_251 (w := yso w o2) (d := 57) q)) ho⟩
theorem t_removedNodes (T : zTi sv h m b xs w o2 th) : ∃ v w1 o3 th', zSq sv m b xs h (zcall zP sv 60 61 [.ref m] h) (fun h1 => zcall zP sv 60 290 [.ref (m + 119)] h1) (.int v) (.int v) w1 o3 th' := by
  have hc := T.1
  have hk := T.2.2.1
  have ho := T.2.2.2.1
  exact ⟨_, _, o2, _, zsq_v T (zEnd_y hc (d_61 (d := 12) hc)) (by omega) (by omega) (hk) (fun h1 q => zMC_x (e_290 (w := yso w o2) (d := 57) q)) ho⟩
theorem t_undoCount (T : zTi sv h m b xs w o2 th) : ∃ v w1 o3 th', zSq sv m b xs h (zcall zP sv 60 66 [.ref m] h) (fun h1 => zcall zP sv 60 295 [.ref (m + 119)] h1) (.int v) (.int v) w1 o3 th' := by
  have hc := T.1
  have hk := T.2.2.1
  have ho := T.2.2.2.1
  exact ⟨_, _, o2, _, zsq_v T (zEnd_y hc (d_66 (d := 12) hc)) (by omega) (by omega) (hk) (fun h1 q => zMC_x (e_295 (w := yso w o2) (d := 57) q)) ho⟩
theorem t_save (T : zTi sv h m b xs w o2 th) : ∃ v w1 o3 th', zSq sv m b xs h (zcall zP sv 60 68 [.ref m] h) (fun h1 => zcall zP sv 60 297 [.ref (m + 119)] h1) (.int v) (.int v) w1 o3 th' := by
  have hc := T.1
  have hk := T.2.2.1
  have ho := T.2.2.2.1
  exact ⟨_, _, o2, _, zsq_v T (zEnd_y hc (d_68 (d := 54) hc)) (by omega) (by omega) (⟨hk.1, hk.1, hk.2.2.1, hk.2.2.2⟩) (fun h1 q => zMC_x (e_297 (w := yso w o2) (d := 57) q)) ho⟩
theorem t_isConsistent (T : zTi sv h m b xs w o2 th) : ∃ v w1 o3 th', zSq sv m b xs h (zcall zP sv 60 64 [.ref m] h) (fun h1 => zcall zP sv 60 293 [.ref (m + 119)] h1) (.int v) (.int v) w1 o3 th' := by
  have hc := T.1
  have hk := T.2.2.1
  have ho := T.2.2.2.1
  obtain ⟨M, h1M, hM4, hR⟩ := id hk.1
  obtain ⟨c, z1, z2⟩ := d_64 (sv := sv) (d := 9) hc hR h1M hM4
  have z3 := z1 fun t ht => ycon_ok h1M hM4 ((zcur_ok hc).2.1 t ht)
  subst z3
  exact ⟨nI 1, _, _, _, zsq_v T (zEnd_y hc z2) (by omega) (by omega) hk (fun h1 q => zMC_x (e_293 (d := 57) q)) ho⟩
end ZSJ

section ZSK
variable {h : zH}
def yA0 : yA := ([], List.replicate 6 0, nI 2, 0)
def yS0 : yS := ([], List.replicate 6 0, nI 2, 0)
/-- what a new object stands for -/
def yw0 : yW := ([], -1, false, yA0, yA0, [], [])
theorem zRow_f {a n : Nat} (h1 : h.1 a = (4, [.ref (a + 1)])) (h2 : h.1 (a + 1) = (20, List.replicate n (.int 0))) (hn : n < 2 ^ 31) : zRow h a (List.replicate n 0) := ⟨h1, by rw [h2, List.map_replicate], by rw [List.length_replicate]; exact hn⟩
theorem zTre_f {t m : Nat} (c : h.1 t = (6, [.ref (t + 1), .ref (t + 3), .ref (t + 5), .ref (t + 7), .int (nI m), .int 0])) (r1 : zRow h (t + 1) (List.replicate m 0)) (r2 : zRow h (t + 3) (List.replicate m 0)) (r3 : zRow h (t + 5) (List.replicate m 0)) (r4 : zRow h (t + 7) (List.replicate m 0)) : zTre h t m [] :=
  ⟨_, _, _, _, by rw [c, ← nI_0]; rfl, ⟨r1, r2, r3, r4⟩, ⟨List.length_replicate, List.length_replicate, List.length_replicate, List.length_replicate, Nat.zero_le _⟩, rfl, rfl, rfl, rfl⟩
theorem zSta_f {s : Nat} (c : h.1 s = (3, [.ref (s + 1), .int 0, .ref (s + 2), .int (nI 2), .int 0])) (f : h.1 (s + 1) = (25, List.replicate 6 .null)) (r : zRow h (s + 2) (List.replicate 6 0)) : zSta h s yS0 :=
  ⟨by rw [c, ← nI_0]; rfl, ⟨_, f, rfl, fun j hj => by
    rcases (show j = 0 ∨ j = 1 ∨ j = 2 ∨ j = 3 ∨ j = 4 ∨ j = 5 by omega) with rfl | rfl | rfl | rfl | rfl | rfl <;> rfl⟩, r, rfl, Nat.zero_le _⟩
theorem yAok_0 : yAok yA0 := ⟨Nat.zero_le _, fun t ht => absurd ht List.not_mem_nil, rfl⟩
theorem zAS_0 {m : Nat} : zAS h m yS0 yA0 := ⟨rfl, ⟨rfl, fun i a t hi => (by cases hi)⟩, yAok_0⟩
theorem zbnd {a b : Int32} : True := trivial
variable {S : Nat}
set_option maxRecDepth 10000 in
theorem zfr_his : zHis (zext h (zC0 h.2.1) S) (h.2.1 + 11) [] := by
  refine ⟨0, by decide, by rw [zr0_11, nI_0]; show _ = ((5, [.ref _, .int 0, .int (nI 0)]) : zC); rw [nI_0], zr0_12, fun k hk => ⟨yS0, ?_⟩, fun j S2 hj => (by cases hj), Nat.zero_le _⟩
  rcases (show k = 0 ∨ k = 1 ∨ k = 2 ∨ k = 3 ∨ k = 4 ∨ k = 5 ∨ k = 6 ∨ k = 7 by omega) with rfl | rfl | rfl | rfl | rfl | rfl | rfl | rfl
  · exact (zSta_f (zr0_13 (h := h) (S := S)) (zr0_14 (h := h) (S := S)) (zRow_f (n := 6) (zr0_15 (h := h) (S := S)) (zr0_16 (h := h) (S := S)) (by decide)))
  · exact (zSta_f (zr0_17 (h := h) (S := S)) (zr0_18 (h := h) (S := S)) (zRow_f (n := 6) (zr0_19 (h := h) (S := S)) (zr0_20 (h := h) (S := S)) (by decide)))
  · exact (zSta_f (zr0_21 (h := h) (S := S)) (zr0_22 (h := h) (S := S)) (zRow_f (n := 6) (zr0_23 (h := h) (S := S)) (zr0_24 (h := h) (S := S)) (by decide)))
  · exact (zSta_f (zr0_25 (h := h) (S := S)) (zr0_26 (h := h) (S := S)) (zRow_f (n := 6) (zr0_27 (h := h) (S := S)) (zr0_28 (h := h) (S := S)) (by decide)))
  · exact (zSta_f (zr0_29 (h := h) (S := S)) (zr0_30 (h := h) (S := S)) (zRow_f (n := 6) (zr0_31 (h := h) (S := S)) (zr0_32 (h := h) (S := S)) (by decide)))
  · exact (zSta_f (zr0_33 (h := h) (S := S)) (zr0_34 (h := h) (S := S)) (zRow_f (n := 6) (zr0_35 (h := h) (S := S)) (zr0_36 (h := h) (S := S)) (by decide)))
  · exact (zSta_f (zr0_37 (h := h) (S := S)) (zr0_38 (h := h) (S := S)) (zRow_f (n := 6) (zr0_39 (h := h) (S := S)) (zr0_40 (h := h) (S := S)) (by decide)))
  · exact (zSta_f (zr0_41 (h := h) (S := S)) (zr0_42 (h := h) (S := S)) (zRow_f (n := 6) (zr0_43 (h := h) (S := S)) (zr0_44 (h := h) (S := S)) (by decide)))
theorem zfr_par : zPar (zext h (zC0 h.2.1) S) (h.2.1 + 63) [] 0 [] := ⟨by rw [zr0_63, nI_0], ⟨by rw [zr0_64]; show _ = ((8, [.ref _, .int (nI 0)]) : zC); rw [nI_0], ⟨List.replicate 60 0, by rw [zr0_65, List.map_replicate], List.length_replicate, rfl⟩, Nat.zero_le _, fun x hx => absurd hx List.not_mem_nil⟩, (zTre_f (m := 60) (zr0_66 (h := h) (S := S)) (zRow_f (n := 60) (zr0_67 (h := h) (S := S)) (zr0_68 (h := h) (S := S)) (by decide)) (zRow_f (n := 60) (zr0_69 (h := h) (S := S)) (zr0_70 (h := h) (S := S)) (by decide)) (zRow_f (n := 60) (zr0_71 (h := h) (S := S)) (zr0_72 (h := h) (S := S)) (by decide)) (zRow_f (n := 60) (zr0_73 (h := h) (S := S)) (zr0_74 (h := h) (S := S)) (by decide)))⟩
set_option maxRecDepth 10000 in
theorem zfr_scr : zScr (zext h (zC0 h.2.1) S) h.2.1 := by
  refine ⟨⟨[], (zTre_f (m := 124) (zr0_45 (h := h) (S := S)) (zRow_f (n := 124) (zr0_46 (h := h) (S := S)) (zr0_47 (h := h) (S := S)) (by decide)) (zRow_f (n := 124) (zr0_48 (h := h) (S := S)) (zr0_49 (h := h) (S := S)) (by decide)) (zRow_f (n := 124) (zr0_50 (h := h) (S := S)) (zr0_51 (h := h) (S := S)) (by decide)) (zRow_f (n := 124) (zr0_52 (h := h) (S := S)) (zr0_53 (h := h) (S := S)) (by decide)))⟩, ⟨[], (zTre_f (m := 124) (zr0_54 (h := h) (S := S)) (zRow_f (n := 124) (zr0_55 (h := h) (S := S)) (zr0_56 (h := h) (S := S)) (by decide)) (zRow_f (n := 124) (zr0_57 (h := h) (S := S)) (zr0_58 (h := h) (S := S)) (by decide)) (zRow_f (n := 124) (zr0_59 (h := h) (S := S)) (zr0_60 (h := h) (S := S)) (by decide)) (zRow_f (n := 124) (zr0_61 (h := h) (S := S)) (zr0_62 (h := h) (S := S)) (by decide)))⟩, ⟨List.replicate 124 0, (zr0_75 (h := h) (S := S)), (zRow_f (n := 124) (zr0_76 (h := h) (S := S)) (zr0_77 (h := h) (S := S)) (by decide)), List.length_replicate⟩, ⟨_, _, _, (zr0_78 (h := h) (S := S)), (zRow_f (n := 124) (zr0_79 (h := h) (S := S)) (zr0_80 (h := h) (S := S)) (by decide)), (zRow_f (n := 124) (zr0_81 (h := h) (S := S)) (zr0_82 (h := h) (S := S)) (by decide)), (zRow_f (n := 124) (zr0_83 (h := h) (S := S)) (zr0_84 (h := h) (S := S)) (by decide)), List.length_replicate, List.length_replicate, List.length_replicate⟩, ⟨(zr0_85 (h := h) (S := S)), ⟨[], (zTre_f (m := 62) (zr0_86 (h := h) (S := S)) (zRow_f (n := 62) (zr0_87 (h := h) (S := S)) (zr0_88 (h := h) (S := S)) (by decide)) (zRow_f (n := 62) (zr0_89 (h := h) (S := S)) (zr0_90 (h := h) (S := S)) (by decide)) (zRow_f (n := 62) (zr0_91 (h := h) (S := S)) (zr0_92 (h := h) (S := S)) (by decide)) (zRow_f (n := 62) (zr0_93 (h := h) (S := S)) (zr0_94 (h := h) (S := S)) (by decide)))⟩, _, (zRow_f (n := 31) (zr0_95 (h := h) (S := S)) (zr0_96 (h := h) (S := S)) (by decide)), List.length_replicate⟩, ⟨_, _, (zr0_97 (h := h) (S := S))⟩, ⟨_, _, _, (zr0_98 (h := h) (S := S)), (zRow_f (n := 124) (zr0_99 (h := h) (S := S)) (zr0_100 (h := h) (S := S)) (by decide)), (zRow_f (n := 124) (zr0_101 (h := h) (S := S)) (zr0_102 (h := h) (S := S)) (by decide)), (zRow_f (n := 124) (zr0_103 (h := h) (S := S)) (zr0_104 (h := h) (S := S)) (by decide)), List.length_replicate, List.length_replicate, List.length_replicate⟩, ⟨_, (zRow_f (n := 62) (zr0_105 (h := h) (S := S)) (zr0_106 (h := h) (S := S)) (by decide)), List.length_replicate⟩, ⟨_, (zRow_f (n := 62) (zr0_107 (h := h) (S := S)) (zr0_108 (h := h) (S := S)) (by decide)), List.length_replicate⟩, ⟨_, (zRow_f (n := 62) (zr0_109 (h := h) (S := S)) (zr0_110 (h := h) (S := S)) (by decide)), List.length_replicate⟩, ⟨_, (zRow_f (n := 62) (zr0_111 (h := h) (S := S)) (zr0_112 (h := h) (S := S)) (by decide)), List.length_replicate⟩, ⟨_, (zRow_f (n := 62) (zr0_113 (h := h) (S := S)) (zr0_114 (h := h) (S := S)) (by decide)), List.length_replicate⟩, ⟨_, (zRow_f (n := 7) (zr0_115 (h := h) (S := S)) (zr0_116 (h := h) (S := S)) (by decide)), List.length_replicate, fun x hx => List.eq_of_mem_replicate hx⟩, _, (zRow_f (n := 11) (zr0_117 (h := h) (S := S)) (zr0_118 (h := h) (S := S)) (by decide)), List.length_replicate⟩
theorem zfr_cls : zCls (zext h (zC0 h.2.1) S) h.2.1 yw0 := by
  refine ⟨Nat.le_of_eq zr0_sz.symm, zr0_0, ⟨yS0, (zSta_f (zr0_3 (h := h) (S := S)) (zr0_4 (h := h) (S := S)) (zRow_f (n := 6) (zr0_5 (h := h) (S := S)) (zr0_6 (h := h) (S := S)) (by decide))), zAS_0⟩, ⟨yS0, (zSta_f (zr0_7 (h := h) (S := S)) (zr0_8 (h := h) (S := S)) (zRow_f (n := 6) (zr0_9 (h := h) (S := S)) (zr0_10 (h := h) (S := S)) (by decide))), zAS_0⟩, ⟨[], zfr_his, rfl, fun j S2 A hj => (by cases hj)⟩, ⟨0, [], zfr_par⟩, zfr_scr, ?_⟩
  refine ⟨h.2.1 + 2, List.replicate 16 0, 0, by rw [zr0_1]; show _ = ((2, [.ref _, .int 0, .int 0, .int (nI 0)]) : zC); rw [nI_0], by rw [zr0_2, List.map_replicate], Or.inl rfl, Nat.zero_le _, rfl, by rw [List.length_replicate]; decide, fun x hx => ?_⟩
  rw [List.eq_of_mem_replicate hx]
  decide +kernel
def yF0 (k : Nat) : Int32 := if k = 29 then -1 else 0
def yN0 : List Int32 := (List.replicate 387 0).set 1 (nI 2)
theorem yNw_0 : yNow yN0 yA0 := by
  refine ⟨by unfold yN0; rw [List.length_set, List.length_replicate], by rw [show nI (yA0).1.length = 0 from nI_0]; rfl, rfl, rfl, fun v x hv => ?_, fun i t hi => by cases hi⟩
  have hv6 : v < 6 := (List.getElem?_eq_some_iff.mp hv).1
  rcases (show v = 0 ∨ v = 1 ∨ v = 2 ∨ v = 3 ∨ v = 4 ∨ v = 5 by omega) with rfl | rfl | rfl | rfl | rfl | rfl
  · cases hv; rfl
  · cases hv; rfl
  · cases hv; rfl
  · cases hv; rfl
  · cases hv; rfl
  · cases hv; rfl
theorem zfr_scm : zScm (zext h (zC0 h.2.1) S) (h.2.1 + 119) := by
  refine ⟨⟨[], List.replicate 700 0, List.replicate 700 0, ((zr0_124 (h := h) (S := S))).trans (by rw [List.map_replicate]), ((zr0_125 (h := h) (S := S))).trans (by rw [List.map_replicate]), List.length_replicate, List.length_replicate, rfl, rfl, Nat.zero_le _⟩, ⟨[], List.replicate 700 0, List.replicate 700 0, ((zr0_126 (h := h) (S := S))).trans (by rw [List.map_replicate]), ((zr0_127 (h := h) (S := S))).trans (by rw [List.map_replicate]), List.length_replicate, List.length_replicate, rfl, rfl, Nat.zero_le _⟩, ?_, ⟨List.replicate 700 0, ((zr0_130 (h := h) (S := S))).trans (by rw [List.map_replicate]), List.length_replicate⟩, ⟨List.replicate 700 0, ((zr0_131 (h := h) (S := S))).trans (by rw [List.map_replicate]), List.length_replicate⟩, ⟨List.replicate 700 0, ((zr0_132 (h := h) (S := S))).trans (by rw [List.map_replicate]), List.length_replicate⟩, ⟨List.replicate 700 0, ((zr0_133 (h := h) (S := S))).trans (by rw [List.map_replicate]), List.length_replicate⟩, ⟨List.replicate 700 0, ((zr0_134 (h := h) (S := S))).trans (by rw [List.map_replicate]), List.length_replicate⟩⟩
  exact ⟨List.replicate 700 0, List.replicate 700 0, (zr0_129 (h := h) (S := S)).trans (by rw [List.map_replicate]), List.length_replicate, (zr0_128 (h := h) (S := S)).trans (by rw [List.map_replicate]), List.length_replicate⟩
set_option maxRecDepth 10000 in
theorem zfr_mdl : zMdl (zext h (zC0 h.2.1) S) (h.2.1 + 119) (yso yw0 []) 0 := by
  refine ⟨yF0, rfl, ⟨?_, ⟨yN0, ⟨?_, yNw_0.1⟩, yNw_0⟩, zfr_scm⟩, ⟨List.replicate 387 0, (zr0_121 (h := h) (S := S)).trans (by rw [List.map_replicate]), List.length_replicate⟩, ⟨⟨nI_0.symm, rfl, nI_0.symm, nI_0.symm, rfl, Nat.zero_le _⟩, ⟨List.replicate 3096 0, (zr0_122 (h := h) (S := S)).trans (by rw [List.map_replicate]), List.length_replicate, fun j A hj => (by cases hj)⟩, ⟨List.replicate 387 0, ⟨(zr0_123 (h := h) (S := S)).trans (by rw [List.map_replicate]), List.length_replicate⟩, fun q => (by cases q)⟩, ⟨List.replicate 700 0, (zr0_135 (h := h) (S := S)).trans (by rw [List.map_replicate]), List.length_replicate, rfl, Nat.zero_le _⟩, ⟨List.replicate 60 0, (zr0_136 (h := h) (S := S)).trans (by rw [List.map_replicate]), List.length_replicate, rfl, Nat.zero_le _⟩⟩, yAok_0⟩
  · exact zr0_119
  · rw [zr0_120]
    rfl
theorem yWok_0 : yWok yw0 := ⟨⟨2, by decide, by decide, rfl⟩, ⟨2, by decide, by decide, rfl⟩, fun A hA => absurd hA List.not_mem_nil, Or.inl rfl⟩
/-- the law's loop begins with the class and the model new -/
theorem zTi_0 {sv : Nat → Value} {b a1 a2 : Nat} {xs O T : List Int32} (hb : b < h.2.1) (hx : h.1 b = (28, xs.map Value.int)) (s1 : sv 1 = .ref a1) (s2 : sv 2 = .ref a2) (g1 : h.1 a1 = (27, O.map Value.int)) (g2 : h.1 a2 = (27, T.map Value.int)) (o1 : O.length = 100) (t1 : T.length = 100) (b1 : a1 < h.2.1) (b2 : a2 < h.2.1) : zTi sv (zext h (zC0 h.2.1) S) h.2.1 b xs yw0 [] 0 :=
  ⟨zfr_cls, zfr_mdl, yWok_0, fun x hx => absurd hx List.not_mem_nil, ⟨hb, (zext_lo hb).trans hx⟩, ⟨_, zr0_137⟩, ⟨_, zr0_138⟩, a1, a2, O, T, s1, s2, (zext_lo b1).trans g1, (zext_lo b2).trans g2, o1, t1, b1, b2⟩
end ZSK

section ZSL
def zL6 (l : Slot) : Prop := l = .unset ∨ ∃ x : Int32, l = .val (.int x)
def zL7 (l l' : Slot) : Prop := (l' = .unset ∧ (l = .unset ∨ (∃ x : Int32, l = .val (.int x)) ∨ ∃ x : UInt32, l = .val (.float x))) ∨ ((∃ x : UInt64, l = .val (.double x)) ∧ l' = .second)
theorem zL6_n {l : Slot} (s : zL6 l) : znw l = true := by
  rcases s with rfl | ⟨x, rfl⟩
  · exact znw_u
  · exact znw_i
theorem zL7_n {l l' : Slot} (s : zL7 l l') : (znw l = true ∧ l' = .unset) ∨ ((∃ x : UInt64, l = .val (.double x)) ∧ l' = .second) := by
  rcases s with ⟨rfl, rfl | ⟨x, rfl⟩ | ⟨x, rfl⟩⟩ | s
  · exact Or.inl ⟨znw_u, rfl⟩
  · exact Or.inl ⟨znw_i, rfl⟩
  · exact Or.inl ⟨rfl, rfl⟩
  · exact Or.inr s
variable {sv : Nat → Value} {m b i : Nat} {xs : List Int32} {h : zH}
/-- a call of the law comes to its loop's end -/
def zgoL (sv : Nat → Value) (m b : Nat) (xs : List Int32) (i : Nat) (h : zH) (pe : Nat) (r : zR) : Prop := ∃ (l6 l7 l8 : Slot) (h' : zH) (w' : yW) (o' : List Int32) (th' : Int32), r = zrun zP sv (zcall zP sv 60) 299 pe [.val (.ref b), .val (.ref m), .val (.ref (m + 119)), .val (.ref (m + 137)), .val (.ref (m + 138)), .val (.int (nI i)), l6, l7, l8] [] h' ∧ zL6 l6 ∧ zL7 l7 l8 ∧ zTi sv h' m b xs w' o' th' ∧ zgr h h'
theorem zscr {j : Nat} {K : Value → zR} (hb : h.1 b = (28, xs.map Value.int)) (hi : i + j < xs.length) (h2 : xs.length ≤ 2048) : zael (h.1 b) 28 (nI i + nI j) K = K (.int (xs.getD (i + j) 0)) := by
  rw [hb, nI_add]
  exact zael_k (by rw [List.getElem?_map, List.getElem?_eq_getElem hi, List.getD_eq_getElem?_getD, List.getElem?_eq_getElem hi]; rfl) (by omega)
theorem zscr0 {K : Value → zR} (hb : h.1 b = (28, xs.map Value.int)) (hi : i < xs.length) (h2 : xs.length ≤ 2048) : zael (h.1 b) 28 (nI i) K = K (.int (xs.getD i 0)) := by
  rw [hb]
  exact zael_k (by rw [List.getElem?_map, List.getElem?_eq_getElem hi, List.getD_eq_getElem?_getD, List.getElem?_eq_getElem hi]; rfl) (by omega)
theorem zlcx {x : Int64} : lg_cmp x x = 0 := by
  unfold lg_cmp
  simp
theorem zend_t {n : Nat} (hn : n ≤ 2048) (hi : i ≤ 2048) (hl : n < i + 4) : nI n - nI 4 < nI i := by
  by_cases h4 : n < 4
  · have hneg : nI n - nI 4 < 0 := by
      rcases (show n = 0 ∨ n = 1 ∨ n = 2 ∨ n = 3 by omega) with rfl | rfl | rfl | rfl <;> decide +kernel
    exact Int32.lt_of_lt_of_le hneg (by
      rw [← Int32.not_lt]
      exact nI_pos (by omega))
  · rw [show n = 4 + (n - 4) by omega, nI_sub']
    exact nI_lt (by omega) (by omega)
theorem zend_f {n : Nat} (hn : n ≤ 2048) (hl : i + 4 ≤ n) : ¬ nI n - nI 4 < nI i := by
  rw [show n = 4 + (n - 4) by omega, nI_sub']
  exact nI_nlt (by omega) (by omega)
end ZSL
