theorem zRow_kd {h : zH} {r : Nat} {A : List Int32} (hr : zRow h r A) : (h.1 r).1 = 4 ∧ (h.1 (r + 1)).1 = 20 := ⟨by rw [hr.1], by rw [hr.2.1]⟩
theorem zCod_kd {h : zH} {m : Nat} (hc : zCod h (m + 97)) : ∀ q, m + 97 ≤ q → q < m + 119 → (h.1 q).1 ≠ 27 := by
  obtain ⟨⟨le, ma, c0⟩, ⟨A, B, C, g0, g1, g2, g3, _⟩, ⟨K, k1, _⟩, ⟨R, k2, _⟩, ⟨N, k3, _⟩, ⟨L, k4, _⟩, ⟨E, k5, _⟩, ⟨S, k6, _⟩, ⟨P, k7, _⟩⟩ := hc
  have e0 : (h.1 (m + 97)).1 = 12 := by rw [c0]
  have e1 : (h.1 (m + 97 + 1)).1 = 10 := by rw [g0]; rfl
  have a1 := zRow_kd g1
  have a2 := zRow_kd g2
  have a3 := zRow_kd g3
  have b1 := zRow_kd k1
  have b2 := zRow_kd k2
  have b3 := zRow_kd k3
  have b4 := zRow_kd k4
  have b5 := zRow_kd k5
  have b6 := zRow_kd k6
  have b7 := zRow_kd k7
  intro q q1 q2
  obtain ⟨k, hk, rfl⟩ : ∃ k, k < 22 ∧ q = m + 97 + k := ⟨q - (m + 97), by omega, by omega⟩
  rcases (show k = 0 ∨ k = 1 ∨ k = 2 ∨ k = 3 ∨ k = 4 ∨ k = 5 ∨ k = 6 ∨ k = 7 ∨ k = 8 ∨ k = 9 ∨ k = 10 ∨ k = 11 ∨ k = 12 ∨ k = 13 ∨ k = 14 ∨ k = 15 ∨ k = 16 ∨ k = 17 ∨ k = 18 ∨ k = 19 ∨ k = 20 ∨ k = 21 by omega) with rfl | rfl | rfl | rfl | rfl | rfl | rfl | rfl | rfl | rfl | rfl | rfl | rfl | rfl | rfl | rfl | rfl | rfl | rfl | rfl | rfl | rfl
  · rw [show m + 97 + 0 = m + 97 by omega, e0]; decide
  · rw [e1]; decide
  · rw [show m + 97 + 2 = m + 97 + 1 + 1 by omega, a1.1]; decide
  · rw [show m + 97 + 3 = m + 97 + 1 + 1 + 1 by omega, a1.2]; decide
  · rw [show m + 97 + 4 = m + 97 + 1 + 3 by omega, a2.1]; decide
  · rw [show m + 97 + 5 = m + 97 + 1 + 3 + 1 by omega, a2.2]; decide
  · rw [show m + 97 + 6 = m + 97 + 1 + 5 by omega, a3.1]; decide
  · rw [show m + 97 + 7 = m + 97 + 1 + 5 + 1 by omega, a3.2]; decide
  · rw [b1.1]; decide
  · rw [show m + 97 + 9 = m + 97 + 8 + 1 by omega, b1.2]; decide
  · rw [b2.1]; decide
  · rw [show m + 97 + 11 = m + 97 + 10 + 1 by omega, b2.2]; decide
  · rw [b3.1]; decide
  · rw [show m + 97 + 13 = m + 97 + 12 + 1 by omega, b3.2]; decide
  · rw [b4.1]; decide
  · rw [show m + 97 + 15 = m + 97 + 14 + 1 by omega, b4.2]; decide
  · rw [b5.1]; decide
  · rw [show m + 97 + 17 = m + 97 + 16 + 1 by omega, b5.2]; decide
  · rw [b6.1]; decide
  · rw [show m + 97 + 19 = m + 97 + 18 + 1 by omega, b6.2]; decide
  · rw [b7.1]; decide
  · rw [show m + 97 + 21 = m + 97 + 20 + 1 by omega, b7.2]; decide
section ZSF
variable {sv : Nat → Value} {d : Nat} {h : zH} {m : Nat} {w : yW}
/-- what a call leaves: all beside the class's object but bytes that can be written -/
def zfy (m N K : Nat) (h h' : zH) : Prop := (∀ q, q < m ∨ (m + 119 ≤ q ∧ (h.1 q).1 ≠ 24) → q < h.2.1 → h'.1 q = h.1 q) ∧ h.2.1 ≤ h'.2.1 ∧ h'.2.1 ≤ h.2.1 + N ∧ h'.2.2 ≤ h.2.2 + K
theorem zfy_fx {N K : Nat} {h' : zH} (hf : zfx m (m + 119) N K h h') : zfy m N K h h' := ⟨fun q hq ql => hf.1 q ql (hq.imp id (fun z => z.1)), hf.2⟩
theorem zfy_mono {N K N' K' : Nat} {h' : zH} (hf : zfy m N K h h') (h1 : N ≤ N') (h2 : K ≤ K') : zfy m N' K' h h' := ⟨hf.1, hf.2.1, by have := hf.2.2.1; omega, by have := hf.2.2.2; omega⟩
theorem zCls_bl (hc : zCls h m w) : ∃ v B, zBl h (m + 1) v B (yout w) ∧ (v = m + 2 ∨ (m + 119 ≤ v ∧ v < h.2.1)) := by
  obtain ⟨c0, _, _, _, _, _, _, v, B, u, e1, e2, e3, e4, e5, e6, e7⟩ := hc
  exact ⟨v, B, ⟨⟨u, e1⟩, e2, ⟨by omega, by omega, by omega⟩, e4, e5, e6, e7⟩, e3⟩
theorem zFs_bo {h' : zH} {r v : Nat} {B B' o : List Int32} {as : List Nat} {ts : List yT} (hf : zFs h m as ts) (hb : zBl h r v B o) (hz : zbo r v B B' h h') : zFs h' m as ts := ⟨hf.1, fun i a t h1 h2 => by
  obtain ⟨g1, g2, g3⟩ := hf.2 i a t h1 h2
  exact ⟨g1, by have := hz.2.1; omega, zTre_bo g3 hb g2 hz⟩⟩
theorem zAS_bo {h' : zH} {r v : Nat} {B B' o : List Int32} {S : yS} {A : yA} (hf : zAS h m S A) (hb : zBl h r v B o) (hz : zbo r v B B' h h') : zAS h' m S A := ⟨hf.1, zFs_bo hf.2.1 hb hz, hf.2.2⟩
theorem zHs_bo {h' : zH} {r v : Nat} {B B' o : List Int32} {H : List yS} {HA : List yA} (hf : zHs h m H HA) (hb : zBl h r v B o) (hz : zbo r v B B' h h') : zHs h' m H HA := ⟨hf.1, fun j S A h1 h2 => zAS_bo (hf.2 j S A h1 h2) hb hz⟩
theorem zCls_bo {h' : zH} {v v' : Nat} {B B' o o' : List Int32} (hc : zCls h m w) (hb : zBl h (m + 1) v B o) (hv : v = m + 2 ∨ (m + 119 ≤ v ∧ v < h.2.1)) (hz : zbo (m + 1) v B B' h h') (hb' : zBl h' (m + 1) v' B' o') (hv' : v' = v ∨ h.2.1 ≤ v') : zCls h' m (yso w o') := by
  obtain ⟨c0, c1, ⟨S, s1, s2⟩, ⟨T, t1, t2⟩, ⟨H, k1, k2⟩, ⟨pos, ns, p1⟩, c7, _⟩ := hc
  have g : ∀ lo hi, m + 3 ≤ lo → hi ≤ m + 119 → zcg lo hi h h' := fun lo hi a b q q1 q2 => hz.1 q (by omega) (by omega) (by omega)
  have hsz := hz.2.1
  obtain ⟨⟨u, e1⟩, e2, ⟨x1, x2, x3⟩, e4, e5, e6, e7⟩ := hb'
  refine ⟨by omega, by rw [hz.1 m (by omega) (by omega) (by omega), c1]; rfl, ⟨S, zSta_cg s1 (g _ _ (by omega) (by omega)), zAS_bo s2 hb hz⟩, ⟨T, zSta_cg t1 (g _ _ (by omega) (by omega)), zAS_bo t2 hb hz⟩, ⟨H, zHis_cg k1 (g _ _ (by omega) (by omega)), zHs_bo k2 hb hz⟩, ⟨pos, ns, zPar_cg p1 (g _ _ (by omega) (by omega))⟩, zScr_cg c7 (g _ _ (by omega) (by omega)) (g _ _ (by omega) (by omega)), ⟨v', B', u, e1, e2, ?_, e4, e5, e6, e7⟩⟩
  omega
theorem zfy_bo {h' : zH} {v : Nat} {B B' : List Int32} (hv : v = m + 2 ∨ (m + 119 ≤ v ∧ v < h.2.1)) (hk : (h.1 v).1 = 24) (hB : B'.length ≤ 1000) (hz : zbo (m + 1) v B B' h h') : zfy m 1000 2000 h h' := ⟨fun q hq ql => hz.1 q ql (by omega) (fun e => by
  subst e
  rcases hq with a | a
  · omega
  · exact a.2 hk), hz.2.1, by have := hz.2.2.1; omega, by have := hz.2.2.2.1; omega⟩
theorem zfy_tr {N K N' K' : Nat} {h1 h2 : zH} (a : zfy m N K h h1) (b : zfy m N' K' h1 h2) : zfy m (N + N') (K + K') h h2 := ⟨fun q hq ql => by
  have e := a.1 q hq ql
  have e2 := b.1 q (hq.imp id (fun z => ⟨z.1, by rw [e]; exact z.2⟩)) (Nat.lt_of_lt_of_le ql a.2.1)
  exact e2.trans e, Nat.le_trans a.2.1 b.2.1, by have := a.2.2.1; have := b.2.2.1; omega, by have := a.2.2.2; have := b.2.2.2; omega⟩
/-- what a call that writes does -/
def zEnW (h : zH) (m : Nat) (r : zR) (o : List Int32) (w : yW) : Prop := ∃ h', r = some (.inl (some (.int (nI o.length))), h') ∧ zCls h' m (yso w o) ∧ zfy m 1000 2000 h h'
theorem yso_so {w : yW} {o o' : List Int32} : yso (yso w o) o' = yso w o' := rfl
/-- what writeFormula writes -/
def ywf8 (t : yT) : List Int32 := ypar t (nI 1) 0 (fun n => yw9 t n)
theorem d_58 {i : Nat} {t : yT} (hs : sv 0 = .int (nI 1)) (hD : zDg sv h) (hc : zCls h m w) (hi : (ycur w).1[i]? = some t) : zEnW h m (zcall zP sv (d + 48) 58 [.ref m, .int (nI i)] h) (ywf8 t) w := by
  have q1 := zCls_0 hc
  have c0 := hc.1
  obtain ⟨a, e0, a1, a2, a3, a4⟩ := d_70k (sv := sv) (d := d + 45) hc hi
  obtain ⟨tw, t31, t8⟩ := a4
  obtain ⟨f1, f2, f3, f4⟩ := yform tw (by omega)
  obtain ⟨v, B, hb, hv⟩ := zCls_bl hc
  have kb := zBl_k hb
  have rb : ∀ X : zR, zrc (h.1 (m + 1)) 2 X = X := fun X => zBl_rc hb X
  obtain ⟨h1, e1, b1, z1⟩ := d_2 (sv := sv) (d := d + 42) hb
  have c1 := zCls_bo hc hb hv z1 b1 (Or.inl rfl)
  have q2 := zCls_0 c1
  have ht1 := zTre_bo a3 hb a2 z1
  have s1 : a + 9 ≤ h1.2.1 := by have := z1.2.1; omega
  have D1 := zDg_bo hD kb.1 kb.2 z1
  have e183 : zcall zP sv (d + 47) 183 [.ref a] h1 = _ := d_183 (d := d + 46) ht1
  rw [yroot_sub f4] at e183
  obtain ⟨nd, hnd⟩ := ynd_ex (ns := ypo 0 t) (i := ysz t - 1) (by omega)
  have W9 := d_89 (sv := sv) (t := a) (mt := ysz t) (r := m + 1) hs f1 (ydp t) t (nI (ysz t - 1)) (d + 46) (Nat.le_refl _) tw (Or.inr ⟨ysz t - 1, by omega, rfl⟩) f2 (by omega)
  have hkd : ykd t = nd.1 := by rw [← f2, ygt_at f1 hnd]; rfl
  obtain ⟨h2, v2, B2, e2, b2, w2, z2⟩ := d_88 (D := d + 40) hs hnd tw hkd W9 (nI 1) 0 1 h1 v B [] ht1 s1 D1 b1 (by omega) (by show 0 + 13 * ysz t ≤ 430; omega)
  rw [List.nil_append] at b2
  have e13 : zcall zP sv (d + 47) 13 [.ref (m + 1)] h2 = _ := d_13 (d := d + 45) b2
  have hv1 : v = m + 2 ∨ (m + 119 ≤ v ∧ v < h1.2.1) := by have := z1.2.1; omega
  have c2 := zCls_bo c1 b1 hv1 z2 b2 w2
  have q3 := zCls_0 c2
  have zz := zbo_tr z1 (Or.inl rfl) z2
  have r2' : ∀ X : zR, zrc (h2.1 (m + 1)) 2 X = X := fun X => zBl_rc b2 X
  have trc : ∀ X : zR, zrc (h1.1 a) 6 X = X := fun X => zTre_rc ht1
  refine ⟨h2, ?_, c2, zfy_bo (by omega) kb.2 b2.2.2.2.2.2.1 zz⟩
  simp (disch := exact znw_u) only [zc_58, zs_58_0, zs_58_0n, zs_58_1, zs_58_2, zs_58_5, zs_58_5n, zs_58_6, zs_58_6n, zs_58_7, zs_58_10, zs_58_11, zs_58_14, zs_58_14n, zs_58_15, zs_58_15n, zs_58_16, zs_58_19, zs_58_20, zs_58_21, zs_58_21n, zs_58_22, zs_58_25, zs_58_26, zs_58_29, zs_58_29n, zs_58_30, zs_58_33, zs_58_36, q1, q2, q3, zECc, zrc_1, zf_1_0, zp_1_0, zp_1_0n, zf_1_1, zp_1_1, zf_1_2, zp_1_2, zp_1_2n, zf_1_3, zp_1_3, zp_1_3n, zf_1_4, zp_1_40, zp_1_41, zf_1_5, zp_1_5, zp_1_5n, zf_1_6, zp_1_6, zp_1_6n, zf_1_7, zp_1_7, zp_1_7n, zf_1_8, zp_1_8, zp_1_8n, zf_1_9, zp_1_9, zp_1_9n, zf_1_10, zp_1_10, zp_1_10n, zf_1_11, zp_1_11, zp_1_11n, zf_1_12, zp_1_12, zp_1_12n, zEC1 hc, e0, rb, e1, trc, e183, e2, r2', e13, ywf8, zbk_v, zts_s, zts_n, List.cons_append, List.nil_append]
theorem d_57 {i n M : Nat} {t : yT} {x : yI} (hs : sv 0 = .int (nI 1)) (hD : zDg sv h) (hc : zCls h m w) (hi : (ycur w).1[i]? = some t) (hR : (ycur w).2.2.1 = nI M) (h1M : 1 ≤ M) (hM : M ≤ 4) (hx : (yco M t 0 0)[n]? = some x) : zEnW h m (zcall zP sv (d + 48) 57 [.ref m, .int (nI i), .int (nI n)] h) (ywi x) w := by
  have q1 := zCls_0 hc
  have c0 := hc.1
  obtain ⟨a, h1, e0, e1, r3, r12, e2, s, f, tk⟩ := d_trq (sv := sv) (d := d) hc hi hR h1M hM
  have e3 : zcall zP sv (d + 47) 71 [.ref m, .int (nI n)] h1 = _ := d_71k (d := d + 45) s (List.getElem?_eq_some_iff.mp hx).1
  have r1 := zEC1 s.1
  obtain ⟨s1, ma, A, B, C, P, s2⟩ := s
  have q2 := zCls_0 s1
  have ok := yco_o8 hM h1M tk x (List.mem_of_getElem? hx)
  have c01 := s1.1
  obtain ⟨v, B0, hb, hv⟩ := zCls_bl s1
  have kb := zBl_k hb
  have rb : ∀ X : zR, zrc (h1.1 (m + 1)) 2 X = X := fun X => zBl_rc hb X
  have D1 : zDg sv h1 := by
    obtain ⟨a1, a2, d1, d2, d3, d4, d7, d8⟩ := hD
    have kz : ∀ q, m + 97 ≤ q → q < m + 119 → (h.1 q).1 ≠ 27 := zCod_kd hc.2.2.2.2.2.2.1.2.2.2.2.2
    have n1 : a1 < m + 97 ∨ m + 119 ≤ a1 := by
      by_cases z : m + 97 ≤ a1 ∧ a1 < m + 119
      · exact absurd (by rw [d3]) (kz a1 z.1 z.2)
      · omega
    have n2 : a2 < m + 97 ∨ m + 119 ≤ a2 := by
      by_cases z : m + 97 ≤ a2 ∧ a2 < m + 119
      · exact absurd (by rw [d4]) (kz a2 z.1 z.2)
      · omega
    exact ⟨a1, a2, d1, d2, by rw [f.1 _ n1, d3], by rw [f.1 _ n2, d4], by rw [f.2]; exact d7, by rw [f.2]; exact d8⟩
  obtain ⟨h2, e4, b1, z1⟩ := d_2 (sv := sv) (d := d + 42) hb
  have c2 := zCls_bo s1 hb hv z1 b1 (Or.inl rfl)
  have q3 := zCls_0 c2
  have D2 := zDg_bo D1 kb.1 kb.2 z1
  have hsz1 := z1.2.1
  have s3 := zCdC_cg (h' := h2) s2 (fun q qa qb => z1.1 q (by omega) (by omega) (by omega))
  obtain ⟨h3, v3, B3, e5, b3, w3, z3⟩ := d_114 (sv := sv) (d := d + 40) hs D2 b1 s3 hx ok (by show 0 + 40 ≤ 450; omega) (by omega) (by omega) (by omega)
  rw [List.nil_append] at b3
  have hv1 : v = m + 2 ∨ (m + 119 ≤ v ∧ v < h2.2.1) := by omega
  have c3 := zCls_bo c2 b1 hv1 z3 b3 w3
  have q4 := zCls_0 c3
  have e6 : zcall zP sv (d + 47) 13 [.ref (m + 1)] h3 = _ := d_13 (d := d + 45) b3
  have zz := zbo_tr z1 (Or.inl rfl) z3
  have r12' : ∀ X : zR, zrc (h2.1 (m + 97)) 12 X = X := fun X => zCdC_rc s3
  have rb3 : ∀ X : zR, zrc (h3.1 (m + 1)) 2 X = X := fun X => zBl_rc b3 X
  refine ⟨h3, ?_, c3, zfy_mono (zfy_tr (zfy_fx (zfr_fx f (by omega) (by omega))) (zfy_bo (by omega) kb.2 b3.2.2.2.2.2.1 zz)) (by omega) (by omega)⟩
  simp (disch := exact znw_u) only [zc_57, zs_57_0, zs_57_0n, zs_57_1, zs_57_4, zs_57_4n, zs_57_5, zs_57_6, zs_57_9, zs_57_9n, zs_57_10, zs_57_13, zs_57_16, zs_57_19, zs_57_19n, zs_57_20, zs_57_21, zs_57_24, zs_57_24n, zs_57_25, zs_57_28, zs_57_29, zs_57_32, zs_57_32n, zs_57_33, zs_57_36, zs_57_37, zs_57_37n, zs_57_38, zs_57_41, zs_57_44, zs_57_44n, zs_57_45, zs_57_48, zs_57_51, q1, q2, q3, q4, zECc, zrc_1, zf_1_0, zp_1_0, zp_1_0n, zf_1_1, zp_1_1, zf_1_2, zp_1_2, zp_1_2n, zf_1_3, zp_1_3, zp_1_3n, zf_1_4, zp_1_40, zp_1_41, zf_1_5, zp_1_5, zp_1_5n, zf_1_6, zp_1_6, zp_1_6n, zf_1_7, zp_1_7, zp_1_7n, zf_1_8, zp_1_8, zp_1_8n, zf_1_9, zp_1_9, zp_1_9n, zf_1_10, zp_1_10, zp_1_10n, zf_1_11, zp_1_11, zp_1_11n, zf_1_12, zp_1_12, zp_1_12n, zEC1 hc, r1, e0, r3, e1, r12, r12', e2, e3, rb, e4, e5, rb3, e6, zbk_v, zts_s, zts_n, List.cons_append, List.nil_append]
theorem nI_255 (x : Int32) : ∃ j, j < 256 ∧ x &&& nI 255 = nI j := by
  refine ⟨(x &&& nI 255).toBitVec.toNat, ?_, ?_⟩
  · rw [Int32.toBitVec_and, BitVec.toNat_and]
    exact Nat.and_lt_two_pow (n := 8) _ (by decide)
  · apply Int32.toBitVec_inj.mp
    show _ = BitVec.ofNat 32 _
    rw [BitVec.ofNat_toNat, BitVec.setWidth_eq]
theorem ych255 : ∀ j, j < 256 → zty 7 (.int ((nI j).toUInt32 % 65536).toInt32) = true := by decide +kernel
/-- a byte as a sign -/
def ycr (x : Int32) : Int32 := ((x &&& nI 255).toUInt32 % 65536).toInt32
theorem ycr_ty (x : Int32) : zty 7 (.int (ycr x)) = true := by
  obtain ⟨j, hj, ej⟩ := nI_255 x
  unfold ycr
  rw [ej]
  exact ych255 j hj
theorem d_21 {r v n : Nat} {B o : List Int32} (h3' : zty 4 (sv 3) = true) (hb : zBl h r v B o) (hn : n < o.length) : zcall zP sv (d + 3) 21 [.ref r, .int (nI n)] h = some (.inl (some (.int (ycr (o.getD n 0)))), h) := by
  obtain ⟨⟨u, e⟩, ev, _, h3, h4, hL, hty⟩ := hb
  have hl : (B.map Value.int).length = B.length := List.length_map ..
  have em : (if nI B.length < nI o.length then nI B.length else nI o.length) = nI o.length := if_neg (nI_nlt (by omega) (by omega))
  have c0 : ¬ nI n < 0 := nI_pos (by omega)
  have c1 : nI n < nI o.length := nI_lt hn (by omega)
  have e19 : zcall zP sv (d + 1) 19 [.int (nI n), .int (nI o.length), sv 3] h = some (.inl (some (.int (nI n))), h) := by
    have zc : zcall zP sv (d + 1) 19 [.int (nI n), .int (nI o.length), sv 3] h = zrun zP sv (zcall zP sv d) 19 0 [.val (.int (nI n)), .val (.int (nI o.length)), .val (sv 3)] [] h := by
      cases hz : sv 3 with
      | null => exact zcall_s (n := 3) rfl rfl (Nat.le_of_ble_eq_true rfl)
      | ref a => exact zcall_s (n := 3) rfl rfl (Nat.le_of_ble_eq_true rfl)
      | int x => rw [hz] at h3'; cases h3'
      | long x => rw [hz] at h3'; cases h3'
      | float x => rw [hz] at h3'; cases h3'
      | double x => rw [hz] at h3'; cases h3'
      | retAddr x => rw [hz] at h3'; cases h3'
    rw [zc]
    simp (disch := first | exact znw_u | exact znw_i) only [zs_19_0, zs_19_1, zs_19_4, zs_19_5, zs_19_6, zs_19_16, zs_19_17, if_neg c0, if_pos c1]
  have e18 : zcall zP sv (d + 2) 18 [.int (nI n), .int (nI o.length)] h = some (.inl none, h) := by
    simp (disch := first | exact znw_u | exact znw_i) only [zc_18, zs_18_0, zs_18_1, zs_18_2, zs_18_5, zs_18_8, zs_18_9, e19, zbk_v, zts_s, List.cons_append, List.nil_append]
  have g : ∀ K, zael (24, B.map Value.int) 24 (nI n) K = K (.int (B[n]'(by omega))) := fun K => zael_r (by omega) (by omega)
  obtain ⟨j, hj, ej⟩ := nI_255 (B[n]'(by omega))
  have z7 := ych255 j hj
  have e1 : (B.take o.length)[n]? = B[n]? := List.getElem?_take_of_lt hn
  rw [h4] at e1
  have e2 : o.getD n 0 = B[n]'(by omega) := by rw [List.getD_eq_getElem?_getD, e1, List.getElem?_eq_getElem (by omega)]; rfl
  have e3 : ycr (o.getD n 0) = ((nI j).toUInt32 % 65536).toInt32 := by rw [e2]; unfold ycr; rw [ej]
  rw [e3]
  simp (disch := first | exact znw_u | exact znw_i | exact znw_r) only [zc_21, zs_21_0, zs_21_0n, zs_21_1, zs_21_4, zs_21_5, zs_21_5n, zs_21_6, zs_21_9, zs_21_9n, zs_21_10, zs_21_10n, zs_21_11, zs_21_14, zs_21_14n, zs_21_15, zs_21_16, zs_21_17, zs_21_18, zs_21_21, zs_21_23, zs_21_24, zs_21_26, zs_21_29, zs_21_30, zs_21_33, zs_21_33n, zs_21_34, zs_21_35, zs_21_36, zs_21_39, zs_21_40, zs_21_41, zs_21_42, zs_21_42n, zs_21_43, e, zrc_2, zf_2_0, zp_2_0, zp_2_0n, zf_2_1, zp_2_10, zp_2_11, zf_2_2, zp_2_20, zp_2_21, zf_2_3, zp_2_3, ev, zaln_k (show 20 ≤ 24 by omega), hl, zsh_r, em, e18, g, ej, z7, zgd_t, zbk_v, zts_n, ↓reduceIte, List.cons_append, List.nil_append]
theorem d_59n {x : Int32} (hc : zCls h m w) (hx : x < 0 ∨ ¬ x < nI (yout w).length) : zEnd h m (zcall zP sv (d + 48) 59 [.ref m, .int x] h) 1 6 (.inr 2) w := by
  obtain ⟨t1, t2⟩ := zthrow hc
  have q1 := zCls_0 hc
  obtain ⟨v, B, hb, hv⟩ := zCls_bl hc
  have rb : ∀ X : zR, zrc (h.1 (m + 1)) 2 X = X := fun X => zBl_rc hb X
  have e13 : zcall zP sv (d + 47) 13 [.ref (m + 1)] h = _ := d_13 (d := d + 45) hb
  refine ⟨_, ?_, t1, t2⟩
  by_cases c : x < 0
  · simp (disch := exact znw_u) only [zc_59, zs_59_0, zs_59_1, zs_59_4, zs_59_5, zs_59_5n, zs_59_6, zs_59_9, zs_59_12, zs_59_15, zs_59_26, zs_59_26n, zs_59_27, zs_59_30, zs_59_31, zs_59_34, if_pos c, zext_of]
  · have c1 := hx.resolve_left c
    simp (disch := exact znw_u) only [zc_59, zs_59_0, zs_59_1, zs_59_4, zs_59_5, zs_59_5n, zs_59_6, zs_59_9, zs_59_12, zs_59_15, zs_59_26, zs_59_26n, zs_59_27, zs_59_30, zs_59_31, zs_59_34, if_neg c, if_neg c1, q1, zECc, zrc_1, zf_1_0, zp_1_0, zp_1_0n, zf_1_1, zp_1_1, zf_1_2, zp_1_2, zp_1_2n, zf_1_3, zp_1_3, zp_1_3n, zf_1_4, zp_1_40, zp_1_41, zf_1_5, zp_1_5, zp_1_5n, zf_1_6, zp_1_6, zp_1_6n, zf_1_7, zp_1_7, zp_1_7n, zf_1_8, zp_1_8, zp_1_8n, zf_1_9, zp_1_9, zp_1_9n, zf_1_10, zp_1_10, zp_1_10n, zf_1_11, zp_1_11, zp_1_11n, zf_1_12, zp_1_12, zp_1_12n, rb, e13, zbk_v, zts_s, zext_of, List.cons_append, List.nil_append]
theorem d_59 {n : Nat} (h3 : zty 4 (sv 3) = true) (hc : zCls h m w) (hn : n < (yout w).length) : zEnd h m (zcall zP sv (d + 48) 59 [.ref m, .int (nI n)] h) 0 0 (.inl (some (.int (ycr ((yout w).getD n 0))))) w := by
  have q1 := zCls_0 hc
  obtain ⟨v, B, hb, hv⟩ := zCls_bl hc
  have rb : ∀ X : zR, zrc (h.1 (m + 1)) 2 X = X := fun X => zBl_rc hb X
  have e13 : zcall zP sv (d + 47) 13 [.ref (m + 1)] h = _ := d_13 (d := d + 45) hb
  have z7 := ycr_ty ((yout w).getD n 0)
  have e21 := d_21 (sv := sv) (d := d + 43) h3 hb hn
  have hle : (yout w).length ≤ 1000 := by
    have := hb.2.2.2.1
    have := hb.2.2.2.2.2.1
    omega
  have e20 : zcall zP sv (d + 47) 20 [.ref (m + 1), .int (nI n)] h = some (.inl (some (.int (ycr ((yout w).getD n 0)))), h) := by
    simp (disch := exact znw_u) only [zc_20, zs_20_0, zs_20_0n, zs_20_1, zs_20_2, zs_20_5, rb, e21, z7, zgd_t, zbk_v, zts_s, List.cons_append, List.nil_append]
  have c0 : ¬ nI n < 0 := nI_pos (by omega)
  have c1 : nI n < nI (yout w).length := nI_lt hn (by omega)
  refine zEnd_s hc ?_
  simp (disch := exact znw_u) only [zc_59, zs_59_0, zs_59_1, zs_59_4, zs_59_5, zs_59_5n, zs_59_6, zs_59_9, zs_59_12, zs_59_15, zs_59_26, zs_59_26n, zs_59_27, zs_59_30, zs_59_31, zs_59_34, if_neg c0, if_pos c1, q1, zECc, zrc_1, zf_1_0, zp_1_0, zp_1_0n, zf_1_1, zp_1_1, zf_1_2, zp_1_2, zp_1_2n, zf_1_3, zp_1_3, zp_1_3n, zf_1_4, zp_1_40, zp_1_41, zf_1_5, zp_1_5, zp_1_5n, zf_1_6, zp_1_6, zp_1_6n, zf_1_7, zp_1_7, zp_1_7n, zf_1_8, zp_1_8, zp_1_8n, zf_1_9, zp_1_9, zp_1_9n, zf_1_10, zp_1_10, zp_1_10n, zf_1_11, zp_1_11, zp_1_11n, zf_1_12, zp_1_12, zp_1_12n, rb, e13, e20, z7, zgd_t, zbk_v, zts_s, List.cons_append, List.nil_append]
end ZSF
