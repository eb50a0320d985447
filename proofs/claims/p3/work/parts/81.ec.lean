/-- what a call of the class leaves -/
def zEnd (h : zH) (m : Nat) (r : zR) (N M : Nat) (o : zO) (w : yW) : Prop := ∃ h', r = some (o, h') ∧ zCls h' m w ∧ zfx m (m + 119) N M h h'
def ycur (w : yW) : yA := w.2.2.2.1
def ykep (w : yW) : yA := w.2.2.2.2.1
def yhis (w : yW) : List yA := w.2.2.2.2.2.1
def ysc (w : yW) (A : yA) : yW := (w.1, w.2.1, w.2.2.1, A, w.2.2.2.2)
def ysk (w : yW) (A : yA) : yW := (w.1, w.2.1, w.2.2.1, w.2.2.2.1, A, w.2.2.2.2.2)
def ysh (w : yW) (H : List yA) : yW := (w.1, w.2.1, w.2.2.1, w.2.2.2.1, w.2.2.2.2.1, H, w.2.2.2.2.2.2)
def ysb (w : yW) (cs : List Int32) : yW := (cs, w.2)
def yse (w : yW) (e : Int32) : yW := (w.1, e, w.2.2)
def ysi (w : yW) (b : Bool) : yW := (w.1, w.2.1, b, w.2.2.2)
/-- the state before a recorded call -/
def yrec (w : yW) : yW := ysh w ((ycur w :: yhis w).take 8)
theorem zCls_cur {h h' : zH} {m : Nat} {w : yW} {S : yS} {A : yA} (hc : zCls h m w) (hf : zfr (m + 3) (m + 7) h h') (hs : zSta h' (m + 3) S) (ha : zAS h' m S A) : zCls h' m (ysc w A) := by
  obtain ⟨c0, c1, _, ⟨T, t1, t2⟩, ⟨H, k1, k2⟩, ⟨pos, ns, p1⟩, c7, c8⟩ := hc
  have hk := zkp_fr (m := m) hf (by omega)
  exact ⟨by rw [hf.2]; exact c0, by rw [hf.1 m (by omega)]; exact c1, ⟨S, hs, ha⟩, ⟨T, zSta_fr t1 hf (by omega), zAS_kp t2 hk⟩, ⟨H, zHis_fr k1 hf (by omega), zHs_kp k2 hk⟩, ⟨pos, ns, zPar_cg p1 (zcg_fr hf (by omega))⟩, zScr_cg c7 (zcg_fr hf (by omega)) (zcg_fr hf (by omega)), zOut_kp c8 hk (zcg_fr hf (by omega))⟩
theorem zCls_kep {h h' : zH} {m : Nat} {w : yW} {S : yS} {A : yA} (hc : zCls h m w) (hf : zfr (m + 7) (m + 11) h h') (hs : zSta h' (m + 7) S) (ha : zAS h' m S A) : zCls h' m (ysk w A) := by
  obtain ⟨c0, c1, ⟨T, t1, t2⟩, _, ⟨H, k1, k2⟩, ⟨pos, ns, p1⟩, c7, c8⟩ := hc
  have hk := zkp_fr (m := m) hf (by omega)
  exact ⟨by rw [hf.2]; exact c0, by rw [hf.1 m (by omega)]; exact c1, ⟨T, zSta_fr t1 hf (by omega), zAS_kp t2 hk⟩, ⟨S, hs, ha⟩, ⟨H, zHis_fr k1 hf (by omega), zHs_kp k2 hk⟩, ⟨pos, ns, zPar_cg p1 (zcg_fr hf (by omega))⟩, zScr_cg c7 (zcg_fr hf (by omega)) (zcg_fr hf (by omega)), zOut_kp c8 hk (zcg_fr hf (by omega))⟩
theorem zCls_his {h h' : zH} {m : Nat} {w : yW} {H : List yS} {HA : List yA} (hc : zCls h m w) (hf : zfr (m + 11) (m + 45) h h') (hs : zHis h' (m + 11) H) (ha : zHs h' m H HA) : zCls h' m (ysh w HA) := by
  obtain ⟨c0, c1, ⟨S, s1, s2⟩, ⟨T, t1, t2⟩, _, ⟨pos, ns, p1⟩, c7, c8⟩ := hc
  have hk := zkp_fr (m := m) hf (by omega)
  exact ⟨by rw [hf.2]; exact c0, by rw [hf.1 m (by omega)]; exact c1, ⟨S, zSta_fr s1 hf (by omega), zAS_kp s2 hk⟩, ⟨T, zSta_fr t1 hf (by omega), zAS_kp t2 hk⟩, ⟨H, hs, ha⟩, ⟨pos, ns, zPar_cg p1 (zcg_fr hf (by omega))⟩, zScr_cg c7 (zcg_fr hf (by omega)) (zcg_fr hf (by omega)), zOut_kp c8 hk (zcg_fr hf (by omega))⟩
theorem zCls_par {h h' : zH} {m pos : Nat} {w : yW} {cs : List Int32} {ns : List yN} (hc : zCls h m w) (hf : zfr (m + 63) (m + 75) h h') (hs : zPar h' (m + 63) cs pos ns) : zCls h' m (ysb w cs) := by
  obtain ⟨c0, c1, ⟨S, s1, s2⟩, ⟨T, t1, t2⟩, ⟨H, k1, k2⟩, _, c7, c8⟩ := hc
  have hk := zkp_fr (m := m) hf (by omega)
  exact ⟨by rw [hf.2]; exact c0, by rw [hf.1 m (by omega)]; exact c1, ⟨S, zSta_fr s1 hf (by omega), zAS_kp s2 hk⟩, ⟨T, zSta_fr t1 hf (by omega), zAS_kp t2 hk⟩, ⟨H, zHis_fr k1 hf (by omega), zHs_kp k2 hk⟩, ⟨pos, ns, hs⟩, zScr_cg c7 (zcg_fr hf (by omega)) (zcg_fr hf (by omega)), zOut_kp c8 hk (zcg_fr hf (by omega))⟩
theorem zCls_ec {h : zH} {m : Nat} {w : yW} {e : Int32} {b : Bool} (hc : zCls h m w) : zCls (zup h m (zECc m e (yb b))) m (ysi (yse w e) b) := by
  have hf : zfr m (m + 1) h (zup h m (zECc m e (yb b))) := zfr_up (Nat.le_refl _) (Nat.lt_succ_self _)
  obtain ⟨c0, c1, ⟨S, s1, s2⟩, ⟨T, t1, t2⟩, ⟨H, k1, k2⟩, ⟨pos, ns, p1⟩, c7, c8⟩ := hc
  have hk := zkp_fr (m := m) hf (by omega)
  exact ⟨c0, zup_at, ⟨S, zSta_fr s1 hf (by omega), zAS_kp s2 hk⟩, ⟨T, zSta_fr t1 hf (by omega), zAS_kp t2 hk⟩, ⟨H, zHis_fr k1 hf (by omega), zHs_kp k2 hk⟩, ⟨pos, ns, zPar_cg p1 (zcg_fr hf (by omega))⟩, zScr_cg c7 (zcg_fr hf (by omega)) (zcg_fr hf (by omega)), zOut_kp c8 hk (zcg_fr hf (by omega))⟩
section ZDY
variable {sv : Nat → Value} {d : Nat} {h : zH} {m : Nat} {w : yW}
theorem zCls_0 (hc : zCls h m w) : h.1 m = zECc m w.2.1 (yb w.2.2.1) := hc.2.1
theorem zthrow (hc : zCls h m w) : zCls (zext h [(0, [])] 6) m w ∧ zfx m (m + 119) 1 6 h (zext h [(0, [])] 6) := ⟨zCls_new hc (fun q hq => zext_lo hq) (by rw [zext_sz]; omega), zfx_new⟩
theorem d_132E (hc : zCls h m w) : ∃ h', zcall zP sv (d + 4) 132 [.ref (m + 11), .ref (m + 3)] h = some (.inl none, h') ∧ zCls h' m (yrec w) ∧ zfr (m + 11) (m + 45) h h' := by
  have hc' := hc
  obtain ⟨c0, c1, ⟨S, s1, s2⟩, _, ⟨H, k1, k2⟩, _⟩ := hc
  have z6 := zK6_of s2
  obtain ⟨h', e, g1, f1⟩ := d_132 (sv := sv) (d := d) k1 s1 (by omega) z6.1 (fun a ha => by have := z6.2 a ha; omega)
  have hk := zkp_fr (m := m) f1 (by omega)
  refine ⟨h', e, zCls_his hc' (zfr_mono f1 (by omega) (by omega)) g1 ⟨?_, fun j S' A' q1 q2 => ?_⟩, zfr_mono f1 (by omega) (by omega)⟩
  · rw [List.length_take, List.length_take, List.length_cons, List.length_cons, k2.1]; rfl
  · have hj : j < 8 := by
      have := (List.getElem?_eq_some_iff.mp q1).1
      rw [List.length_take] at this
      omega
    rw [List.getElem?_take_of_lt hj] at q1 q2
    cases j with
    | zero =>
      injection q1 with q1
      injection q2 with q2
      subst q1 q2
      exact zAS_kp s2 hk
    | succ j => exact zAS_kp (k2.2 j S' A' q1 q2) hk
theorem zfr_fx {lo hi : Nat} {h h' : zH} (hf : zfr lo hi h h') (h1 : m ≤ lo) (h2 : hi ≤ m + 119) : zfx m (m + 119) 0 0 h h' := zfx_fr hf h1 h2
/-- feed -/
def ynr (x : Int32) : Int32 := x.toUInt32.toUInt16.toUInt32.toInt32
theorem ynr_chr {x : Int32} : ychr (ynr x) := by
  unfold ychr ynr
  have h1 : x.toUInt32.toUInt16.toUInt32.toNat < 65536 := by
    rw [UInt16.toNat_toUInt32]
    exact UInt16.toNat_lt _
  obtain ⟨n, hn⟩ : ∃ n, x.toUInt32.toUInt16.toUInt32.toNat = n := ⟨_, rfl⟩
  have e : x.toUInt32.toUInt16.toUInt32.toInt32 = nI n := by
    apply Int32.toBitVec_inj.mp
    show x.toUInt32.toUInt16.toUInt32.toBitVec = BitVec.ofNat 32 n
    rw [← hn, UInt32.toNat, BitVec.ofNat_toNat, BitVec.setWidth_eq]
  rw [e]
  have h2 : (0 : Int32) ≤ nI n := nI_pos' (by omega)
  have h3 : nI n ≤ nI 65535 := nI_le (by omega) (by decide)
  have h4 : (65535 : Int32) = nI 65535 := by decide +kernel
  show (decide (0 ≤ nI n) && decide (nI n ≤ 65535)) = true
  rw [Bool.and_eq_true, h4]
  exact ⟨decide_eq_true h2, decide_eq_true h3⟩
theorem d_139 {q : Nat} {cs : List Int32} {x : Int32} (hi : zInp h q cs) (hl : cs.length < 60) : ∃ h', zcall zP sv (d + 1) 139 [.ref q, .int x] h = some (.inl none, h') ∧ zInp h' q (cs ++ [ynr x]) ∧ zfr q (q + 2) h h' := by
  obtain ⟨h1, ⟨B, h2, h3, h4⟩, h5, h6⟩ := hi
  have g1 : ¬ nI cs.length < 0 := nI_pos (by omega)
  have g2 : nI cs.length < nI 60 := nI_lt hl (by decide)
  have e1 : ∀ K : zC → zR, zaset (21, B.map Value.int) 21 (nI cs.length) (.int x) K = K (21, (B.set cs.length (ynr x)).map Value.int) := fun K => by
    unfold zaset zix
    rw [nI_clamp (by omega), if_pos ⟨rfl, by rw [decide_eq_true (nI_pos (by omega)), decide_eq_true (by rw [List.length_map]; omega)]; rfl⟩, List.map_set]
    rfl
  have hlen : (cs ++ [ynr x]).length = cs.length + 1 := List.length_append
  refine ⟨zup (zup h (q + 1) (21, (B.set cs.length (ynr x)).map Value.int)) q (8, [.ref (q + 1), .int (nI (cs.length + 1))]), ?_, ⟨by rw [zup_at, hlen], ⟨B.set cs.length (ynr x), by rw [zup_ne (by omega), zup_at], by rw [List.length_set, h3], by rw [hlen, ytk_set h4 (by omega)]⟩, by rw [hlen]; omega, fun y hy => ?_⟩, zfr_tr (zfr_up (by omega) (by omega)) (zfr_up (by omega) (by omega))⟩
  · simp only [zc_139, zs_139_0, zs_139_0n, zs_139_1, zs_139_4, zs_139_7, zs_139_7n, zs_139_8, zs_139_11, zs_139_11n, zs_139_12, zs_139_15, zs_139_16, zs_139_19, zs_139_19n, zs_139_20, zs_139_23, zs_139_23n, zs_139_24, zs_139_27, zs_139_28, zs_139_29, zs_139_29n, zs_139_30, zs_139_31, zs_139_34, zs_139_35, zs_139_36, zs_139_39, h1, zrc_8, zf_8_0, zp_8_0, zp_8_0n, zf_8_1, zp_8_1, if_neg g1, h2, zaln_k (show 20 ≤ 21 by decide), List.length_map, h3, if_pos g2, e1, zup_ne (show q ≠ q + 1 by omega), nI_1']
  · rcases List.mem_append.mp hy with g | g
    · exact h6 y g
    · rw [List.mem_singleton.mp g]
      exact ynr_chr
theorem d_24 {x : Int32} (hc : zCls h m w) : zEnd h m (zcall zP sv (d + 3) 24 [.ref m, .int x] h) 1 6 (if w.1.length < 60 then .inl (some (.int (nI (w.1.length + 1)))) else .inr 0) (if w.1.length < 60 then ysb w (w.1 ++ [ynr x]) else w) := by
  have hc' := hc
  have c1 := zCls_0 hc
  obtain ⟨c0, _, _, _, _, ⟨pos, ns, p1⟩, _⟩ := hc
  have p0 := p1.1
  obtain ⟨i1, ⟨B, i2, i3, i4⟩, i5, i6⟩ := p1.2.1
  have hi := p1.2.1
  have e149 : ∀ h', h'.1 (m + 63) = (7, [.ref (m + 63 + 1), .ref (m + 63 + 3), .int (nI pos)]) → zcall zP sv (d + 2) 149 [.ref (m + 63)] h' = some (.inl (some (.ref (m + 63 + 1))), h') := fun h' e => by simp only [zc_149, zs_149_0, zs_149_0n, zs_149_1, zs_149_4, zs_149_4n, e, zrc_7, zf_7_0, zp_7_0, zp_7_0n, zf_7_1, zp_7_1, zp_7_1n, zf_7_2, zp_7_2]
  by_cases hl : w.1.length < 60
  · rw [if_pos hl, if_pos hl]
    obtain ⟨h', e2, w2, f2⟩ := d_139 (sv := sv) (d := d + 1) (x := x) hi hl
    have g1 : nI w.1.length < nI 60 := nI_lt hl (by decide)
    have p3 : zPar h' (m + 63) (w.1 ++ [ynr x]) pos ns := ⟨by rw [f2.1 _ (by omega), p0], w2, zTre_fr p1.2.2 f2 (by omega)⟩
    have e3 := d_138 (sv := sv) (d := d + 1) w2
    rw [show (w.1 ++ [ynr x]).length = w.1.length + 1 from List.length_append] at e3
    refine ⟨h', ?_, zCls_par hc' (zfr_mono f2 (by omega) (by omega)) p3, zfx_mono (zfr_fx f2 (by omega) (by omega)) (Nat.le_refl _) (Nat.le_refl _) (Nat.zero_le _) (Nat.zero_le _)⟩
    simp (disch := exact znw_u) only [zc_24, zs_24_0, zs_24_0n, zs_24_1, zs_24_4, zs_24_7, zs_24_7n, zs_24_8, zs_24_8n, zs_24_9, zs_24_12, zs_24_15, zs_24_25, zs_24_25n, zs_24_26, zs_24_27, zs_24_30, zs_24_30n, zs_24_31, zs_24_34, c1, zECc, zrc_1, zf_1_0, zp_1_0, zp_1_0n, zf_1_1, zp_1_1, zf_1_2, zp_1_2, zp_1_2n, zf_1_3, zp_1_3, zp_1_3n, zf_1_4, zp_1_40, zp_1_41, zf_1_5, zp_1_5, zp_1_5n, zf_1_6, zp_1_6, zp_1_6n, zf_1_7, zp_1_7, zp_1_7n, zf_1_8, zp_1_8, zp_1_8n, zf_1_9, zp_1_9, zp_1_9n, zf_1_10, zp_1_10, zp_1_10n, zf_1_11, zp_1_11, zp_1_11n, zf_1_12, zp_1_12, zp_1_12n, zrc_8, zf_8_0, zp_8_0, zp_8_0n, zf_8_1, zp_8_1, zPar_rc p1, e149 h p0, zInp_rc hi, zc_137, zs_137_0, zs_137_0n, zs_137_1, zs_137_4, zs_137_4n, zs_137_5, zs_137_8, zs_137_9, zs_137_12, zs_137_13, zs_137_16, zs_137_17, i1, i2, zaln_k (show 20 ≤ 21 by decide), List.length_map, i3, if_pos g1, zty_50, zgd_t, e2, zInp_rc w2, e3, zbk_v, zts_s, zts_n, ↓reduceIte]
  · rw [if_neg hl, if_neg hl]
    have g1 : ¬ nI w.1.length < nI 60 := nI_nlt (by omega) (by omega)
    obtain ⟨t1, t2⟩ := zthrow hc'
    refine ⟨_, ?_, t1, t2⟩
    simp (disch := exact znw_u) only [zc_24, zs_24_0, zs_24_0n, zs_24_1, zs_24_4, zs_24_7, zs_24_7n, zs_24_8, zs_24_8n, zs_24_9, zs_24_12, zs_24_15, zs_24_25, zs_24_25n, zs_24_26, zs_24_27, zs_24_30, zs_24_30n, zs_24_31, zs_24_34, c1, zECc, zrc_1, zf_1_0, zp_1_0, zp_1_0n, zf_1_1, zp_1_1, zf_1_2, zp_1_2, zp_1_2n, zf_1_3, zp_1_3, zp_1_3n, zf_1_4, zp_1_40, zp_1_41, zf_1_5, zp_1_5, zp_1_5n, zf_1_6, zp_1_6, zp_1_6n, zf_1_7, zp_1_7, zp_1_7n, zf_1_8, zp_1_8, zp_1_8n, zf_1_9, zp_1_9, zp_1_9n, zf_1_10, zp_1_10, zp_1_10n, zf_1_11, zp_1_11, zp_1_11n, zf_1_12, zp_1_12, zp_1_12n, zrc_8, zf_8_0, zp_8_0, zp_8_0n, zf_8_1, zp_8_1, zPar_rc p1, e149 h p0, zInp_rc hi, zc_137, zs_137_0, zs_137_0n, zs_137_1, zs_137_4, zs_137_4n, zs_137_5, zs_137_8, zs_137_9, zs_137_12, zs_137_13, zs_137_16, zs_137_17, i1, i2, zaln_k (show 20 ≤ 21 by decide), List.length_map, i3, if_neg g1, zty_51, zgd_t, nI_1e0, zbk_v, zts_s, zts_n, zext_of, ↓reduceIte]
theorem d_25 (hc : zCls h m w) : zEnd h m (zcall zP sv (d + 3) 25 [.ref m] h) 0 0 (.inl (some (.int (nI w.1.length)))) (ysb w []) := by
  have hc' := hc
  have c1 := zCls_0 hc
  obtain ⟨c0, _, _, _, _, ⟨pos, ns, p1⟩, _⟩ := hc
  have p0 := p1.1
  have hi := p1.2.1
  have e149 : ∀ h', h'.1 (m + 63) = (7, [.ref (m + 63 + 1), .ref (m + 63 + 3), .int (nI pos)]) → zcall zP sv (d + 2) 149 [.ref (m + 63)] h' = some (.inl (some (.ref (m + 63 + 1))), h') := fun h' e => by simp only [zc_149, zs_149_0, zs_149_0n, zs_149_1, zs_149_4, zs_149_4n, e, zrc_7, zf_7_0, zp_7_0, zp_7_0n, zf_7_1, zp_7_1, zp_7_1n, zf_7_2, zp_7_2]
  have e3 := d_138 (sv := sv) (d := d + 1) hi
  obtain ⟨h', e2, w2, f2⟩ := d_140 (sv := sv) (d := d + 1) hi
  have p3 : zPar h' (m + 63) [] pos ns := ⟨by rw [f2.1 _ (by omega), p0], w2, zTre_fr p1.2.2 f2 (by omega)⟩
  refine ⟨h', ?_, zCls_par hc' (zfr_mono f2 (by omega) (by omega)) p3, zfr_fx f2 (by omega) (by omega)⟩
  simp (disch := exact znw_u) only [zc_25, zs_25_0, zs_25_0n, zs_25_1, zs_25_4, zs_25_7, zs_25_10, zs_25_11, zs_25_11n, zs_25_12, zs_25_15, zs_25_18, zs_25_21, zs_25_22, c1, zECc, zrc_1, zf_1_0, zp_1_0, zp_1_0n, zf_1_1, zp_1_1, zf_1_2, zp_1_2, zp_1_2n, zf_1_3, zp_1_3, zp_1_3n, zf_1_4, zp_1_40, zp_1_41, zf_1_5, zp_1_5, zp_1_5n, zf_1_6, zp_1_6, zp_1_6n, zf_1_7, zp_1_7, zp_1_7n, zf_1_8, zp_1_8, zp_1_8n, zf_1_9, zp_1_9, zp_1_9n, zf_1_10, zp_1_10, zp_1_10n, zf_1_11, zp_1_11, zp_1_11n, zf_1_12, zp_1_12, zp_1_12n, zPar_rc p1, e149 h p0, zInp_rc hi, e3, e2, zbk_v, zts_s, zts_n]
end ZDY
