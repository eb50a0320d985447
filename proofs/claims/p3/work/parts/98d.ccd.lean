section ZRD
variable {sv : Nat → Value} {d : Nat}
theorem zRow_at {h : zH} {r n : Nat} {A B : List Int32} {k : Nat} {x : Int32} (hr : zRow h r A) (ht : A.take k = B) (hx : B[n]? = some x) : zcall zP sv (d + 1) 165 [.ref r, .int (nI n)] h = some (.inl (some (.int x)), h) := by
  have h1 := ytk_at ht hx
  have h2 := (List.getElem?_eq_some_iff.mp h1).1
  have h3 := hr.2.2
  have e := d_165 (sv := sv) (d := d) (x := nI n) hr
  rw [yg_e (by omega) h1] at e
  exact e
section
variable {h : zH} {c : Nat} {q : List yI} {ma : Int32} {A B C P : List Int32} {j n : Nat} {x : yI}
theorem zCdC_at (hc : zCdC h c q ma A B C P j) (hx : q[n]? = some x) : zcall zP sv (d + 1) 165 [.ref (c + 8), .int (nI n)] h = some (.inl (some (.int x.1)), h) ∧ zcall zP sv (d + 1) 165 [.ref (c + 10), .int (nI n)] h = some (.inl (some (.int x.2.1)), h) ∧ zcall zP sv (d + 1) 165 [.ref (c + 12), .int (nI n)] h = some (.inl (some (.int x.2.2.1)), h) ∧ zcall zP sv (d + 1) 165 [.ref (c + 14), .int (nI n)] h = some (.inl (some (.int x.2.2.2.1)), h) ∧ zcall zP sv (d + 1) 165 [.ref (c + 16), .int (nI n)] h = some (.inl (some (.int x.2.2.2.2)), h) := by
  obtain ⟨c0, hg, ⟨K, R, N, L, E, ⟨k1, k2, k3, k4, k5⟩, ⟨l1, l2, l3, l4, l5⟩, ⟨t1, t2, t3, t4, t5⟩, _⟩, _⟩ := hc
  exact ⟨zRow_at k1 t1 (by rw [List.getElem?_map, hx]; rfl), zRow_at k2 t2 (by rw [List.getElem?_map, hx]; rfl), zRow_at k3 t3 (by rw [List.getElem?_map, hx]; rfl), zRow_at k4 t4 (by rw [List.getElem?_map, hx]; rfl), zRow_at k5 t5 (by rw [List.getElem?_map, hx]; rfl)⟩
theorem zCdC_rr (hc : zCdC h c q ma A B C P j) : (∀ X : zR, zrc (h.1 (c + 8)) 4 X = X) ∧ (∀ X : zR, zrc (h.1 (c + 10)) 4 X = X) ∧ (∀ X : zR, zrc (h.1 (c + 12)) 4 X = X) ∧ (∀ X : zR, zrc (h.1 (c + 14)) 4 X = X) ∧ (∀ X : zR, zrc (h.1 (c + 16)) 4 X = X) ∧ ∀ X : zR, zrc (h.1 (c + 20)) 4 X = X := by
  obtain ⟨c0, hg, ⟨K, R, N, L, E, ⟨k1, k2, k3, k4, k5⟩, _⟩, _, hp, _⟩ := hc
  exact ⟨fun X => zRow_rc k1, fun X => zRow_rc k2, fun X => zRow_rc k3, fun X => zRow_rc k4, fun X => zRow_rc k5, fun X => zRow_rc hp⟩
theorem zCdC_len (hc : zCdC h c q ma A B C P j) : q.length ≤ 62 := by
  obtain ⟨c0, hg, ⟨K, R, N, L, E, _, _, _, z⟩, _⟩ := hc
  exact z
theorem d_102 (hc : zCdC h c q ma A B C P j) : zcall zP sv (d + 1) 102 [.ref c] h = some (.inl (some (.int (nI q.length))), h) := by
  simp only [zc_102, zs_102_0, zs_102_0n, zs_102_1, zs_102_4, hc.1, zCdl, zrc_12, zf_12_0, zp_12_0, zp_12_0n, zf_12_1, zp_12_1, zp_12_1n, zf_12_2, zp_12_2, zp_12_2n, zf_12_3, zp_12_3, zp_12_3n, zf_12_4, zp_12_4, zp_12_4n, zf_12_5, zp_12_5, zf_12_6, zp_12_6, zp_12_6n, zf_12_7, zp_12_7, zp_12_7n, zf_12_8, zp_12_8, zp_12_8n, zf_12_9, zp_12_9]
theorem d_103 (hc : zCdC h c q ma A B C P j) (hx : q[n]? = some x) (hk : zty 7 (.int x.1) = true) (hk2 : (x.1.toUInt32 % 65536).toInt32 = x.1) : zcall zP sv (d + 2) 103 [.ref c, .int (nI n)] h = some (.inl (some (.int x.1)), h) := by
  have e := (zCdC_at (sv := sv) (d := d) hc hx).1
  have r := (zCdC_rr hc).1
  simp (disch := exact znw_u) only [zc_103, zs_103_0, zs_103_0n, zs_103_1, zs_103_4, zs_103_5, zs_103_8, zs_103_9, hc.1, zCdl, zrc_12, zf_12_0, zp_12_0, zp_12_0n, zf_12_1, zp_12_1, zp_12_1n, zf_12_2, zp_12_2, zp_12_2n, zf_12_3, zp_12_3, zp_12_3n, zf_12_4, zp_12_4, zp_12_4n, zf_12_5, zp_12_5, zf_12_6, zp_12_6, zp_12_6n, zf_12_7, zp_12_7, zp_12_7n, zf_12_8, zp_12_8, zp_12_8n, zf_12_9, zp_12_9, r, e, zbk_v, zts_s, hk2, hk, zgd_t, List.cons_append, List.nil_append]
theorem d_104 (hc : zCdC h c q ma A B C P j) (hx : q[n]? = some x) : zcall zP sv (d + 2) 104 [.ref c, .int (nI n)] h = some (.inl (some (.int x.2.1)), h) := by
  have e := (zCdC_at (sv := sv) (d := d) hc hx).2.1
  have r := (zCdC_rr hc).2.1
  simp (disch := exact znw_u) only [zc_104, zs_104_0, zs_104_0n, zs_104_1, zs_104_4, zs_104_5, zs_104_8, hc.1, zCdl, zrc_12, zf_12_0, zp_12_0, zp_12_0n, zf_12_1, zp_12_1, zp_12_1n, zf_12_2, zp_12_2, zp_12_2n, zf_12_3, zp_12_3, zp_12_3n, zf_12_4, zp_12_4, zp_12_4n, zf_12_5, zp_12_5, zf_12_6, zp_12_6, zp_12_6n, zf_12_7, zp_12_7, zp_12_7n, zf_12_8, zp_12_8, zp_12_8n, zf_12_9, zp_12_9, r, e, zbk_v, zts_s, List.cons_append, List.nil_append]
theorem d_105l (hc : zCdC h c q ma A B C P j) : ∀ n i, i + n = q.length → zrun zP sv (zcall zP sv (d + 1)) 105 4 [.val (.ref c), .val (.int (nI (ycs (q.take i)))), .val (.int (nI i))] [] h = some (.inl (some (.int (nI (ycs q)))), h) := by
  have c0 := hc.1
  have r := (zCdC_rr hc).1
  have hl := zCdC_len hc
  intro n
  induction n with
  | zero =>
    intro i hi
    obtain rfl : i = q.length := by omega
    rw [List.take_length]
    simp only [zs_105_4, zs_105_5, zs_105_6, zs_105_9, zs_105_34, zs_105_35, c0, zCdl, zrc_12, zf_12_0, zp_12_0, zp_12_0n, zf_12_1, zp_12_1, zp_12_1n, zf_12_2, zp_12_2, zp_12_2n, zf_12_3, zp_12_3, zp_12_3n, zf_12_4, zp_12_4, zp_12_4n, zf_12_5, zp_12_5, zf_12_6, zp_12_6, zp_12_6n, zf_12_7, zp_12_7, zp_12_7n, zf_12_8, zp_12_8, zp_12_8n, zf_12_9, zp_12_9, Int32.lt_irrefl, ↓reduceIte]
  | succ n ih =>
    intro i hi
    have c1 : nI i < nI q.length := nI_lt (by omega) (by omega)
    obtain ⟨x, hx⟩ : ∃ x, q[i]? = some x := ⟨_, List.getElem?_eq_getElem (by omega)⟩
    have e := (zCdC_at (sv := sv) (d := d) hc hx).1
    have i2 := ih (i + 1) (by omega)
    have ht : q.take (i + 1) = q.take i ++ [x] := by rw [List.take_add_one, hx]; rfl
    rw [ht] at i2
    have eb : ∀ z, zrun zP sv (zcall zP sv (d + 1)) 105 28 [.val (.ref c), .val (.int z), .val (.int (nI i))] [] h = zrun zP sv (zcall zP sv (d + 1)) 105 4 [.val (.ref c), .val (.int z), .val (.int (nI (i + 1)))] [] h := fun z => by rw [zs_105_28, zs_105_31, nI_1']
    rw [← i2, ← eb]
    by_cases g : x.1 = nI 115
    · rw [ycs_2 g]
      simp (disch := exact znw_u) only [zs_105_4, zs_105_5, zs_105_6, zs_105_9, zs_105_12, zs_105_13, zs_105_16, zs_105_17, zs_105_20, zs_105_22, zs_105_25, c0, zCdl, zrc_12, zf_12_0, zp_12_0, zp_12_0n, zf_12_1, zp_12_1, zp_12_1n, zf_12_2, zp_12_2, zp_12_2n, zf_12_3, zp_12_3, zp_12_3n, zf_12_4, zp_12_4, zp_12_4n, zf_12_5, zp_12_5, zf_12_6, zp_12_6, zp_12_6n, zf_12_7, zp_12_7, zp_12_7n, zf_12_8, zp_12_8, zp_12_8n, zf_12_9, zp_12_9, if_pos c1, r, e, zbk_v, zts_s, if_pos g, nI_1', List.cons_append, List.nil_append]
    · rw [ycs_1 g]
      simp (disch := exact znw_u) only [zs_105_4, zs_105_5, zs_105_6, zs_105_9, zs_105_12, zs_105_13, zs_105_16, zs_105_17, zs_105_20, zs_105_22, c0, zCdl, zrc_12, zf_12_0, zp_12_0, zp_12_0n, zf_12_1, zp_12_1, zp_12_1n, zf_12_2, zp_12_2, zp_12_2n, zf_12_3, zp_12_3, zp_12_3n, zf_12_4, zp_12_4, zp_12_4n, zf_12_5, zp_12_5, zf_12_6, zp_12_6, zp_12_6n, zf_12_7, zp_12_7, zp_12_7n, zf_12_8, zp_12_8, zp_12_8n, zf_12_9, zp_12_9, if_pos c1, r, e, zbk_v, zts_s, if_neg g, List.cons_append, List.nil_append]
theorem d_105 (hc : zCdC h c q ma A B C P j) : zcall zP sv (d + 2) 105 [.ref c] h = some (.inl (some (.int (nI (ycs q)))), h) := by
  have e := d_105l (sv := sv) (d := d) hc q.length 0 (Nat.zero_add _)
  rw [show ycs (q.take 0) = 0 from rfl, nI_0] at e
  rw [← e]
  simp (disch := first | exact znw_u | exact znw_i) only [zc_105, zs_105_0, zs_105_1, zs_105_2, zs_105_3]
theorem d_106l (hc : zCdC h c q ma A B C P j) (ho : ∀ x, x ∈ q → x.1 = nI 115 → ∃ s, s ≤ 8 ∧ x.2.2.1 = nI s) : ∀ n i, i + n = q.length → yslo (q.take i) ≤ 9 → zrun zP sv (zcall zP sv (d + 1)) 106 4 [.val (.ref c), .val (.int (nI (yslo (q.take i)))), .val (.int (nI i))] [] h = some (.inl (some (.int (nI (yslo q)))), h) := by
  have c0 := hc.1
  have r := (zCdC_rr hc).1
  have r2 := (zCdC_rr hc).2.2.1
  have hl := zCdC_len hc
  intro n
  induction n with
  | zero =>
    intro i hi _
    obtain rfl : i = q.length := by omega
    rw [List.take_length]
    simp only [zs_106_4, zs_106_5, zs_106_6, zs_106_9, zs_106_46, zs_106_47, c0, zCdl, zrc_12, zf_12_0, zp_12_0, zp_12_0n, zf_12_1, zp_12_1, zp_12_1n, zf_12_2, zp_12_2, zp_12_2n, zf_12_3, zp_12_3, zp_12_3n, zf_12_4, zp_12_4, zp_12_4n, zf_12_5, zp_12_5, zf_12_6, zp_12_6, zp_12_6n, zf_12_7, zp_12_7, zp_12_7n, zf_12_8, zp_12_8, zp_12_8n, zf_12_9, zp_12_9, Int32.lt_irrefl, ↓reduceIte]
  | succ n ih =>
    intro i hi h9
    have c1 : nI i < nI q.length := nI_lt (by omega) (by omega)
    obtain ⟨x, hx⟩ : ∃ x, q[i]? = some x := ⟨_, List.getElem?_eq_getElem (by omega)⟩
    obtain ⟨e, _, e2, _⟩ := zCdC_at (sv := sv) (d := d) hc hx
    have i2 := ih (i + 1) (by omega)
    have ht : q.take (i + 1) = q.take i ++ [x] := by rw [List.take_add_one, hx]; rfl
    rw [ht] at i2
    have eb : ∀ z, zrun zP sv (zcall zP sv (d + 1)) 106 40 [.val (.ref c), .val (.int z), .val (.int (nI i))] [] h = zrun zP sv (zcall zP sv (d + 1)) 106 4 [.val (.ref c), .val (.int z), .val (.int (nI (i + 1)))] [] h := fun z => by rw [zs_106_40, zs_106_43, nI_1']
    by_cases g : x.1 = nI 115
    · obtain ⟨s, hs, es⟩ := ho x (List.mem_of_getElem? hx) g
      rw [yslo_2 g es (by omega)] at i2
      rw [← i2 (by omega), ← eb]
      have em : (if nI (yslo (q.take i)) < nI (s + 1) then nI (s + 1) else nI (yslo (q.take i))) = nI (max (yslo (q.take i)) (s + 1)) := nI_ltn (by omega) (by omega)
      rw [es] at e2
      simp (disch := first | exact znw_u | exact znw_i) only [zs_106_4, zs_106_5, zs_106_6, zs_106_9, zs_106_12, zs_106_13, zs_106_16, zs_106_17, zs_106_20, zs_106_22, zs_106_25, zs_106_26, zs_106_27, zs_106_30, zs_106_31, zs_106_34, zs_106_35, zs_106_36, zs_106_39, c0, zCdl, zrc_12, zf_12_0, zp_12_0, zp_12_0n, zf_12_1, zp_12_1, zp_12_1n, zf_12_2, zp_12_2, zp_12_2n, zf_12_3, zp_12_3, zp_12_3n, zf_12_4, zp_12_4, zp_12_4n, zf_12_5, zp_12_5, zf_12_6, zp_12_6, zp_12_6n, zf_12_7, zp_12_7, zp_12_7n, zf_12_8, zp_12_8, zp_12_8n, zf_12_9, zp_12_9, if_pos c1, r, r2, e, e2, zbk_v, zts_s, if_pos g, nI_1', em, List.cons_append, List.nil_append]
    · rw [yslo_1 g] at i2
      rw [← i2 h9, ← eb]
      simp (disch := exact znw_u) only [zs_106_4, zs_106_5, zs_106_6, zs_106_9, zs_106_12, zs_106_13, zs_106_16, zs_106_17, zs_106_20, zs_106_22, c0, zCdl, zrc_12, zf_12_0, zp_12_0, zp_12_0n, zf_12_1, zp_12_1, zp_12_1n, zf_12_2, zp_12_2, zp_12_2n, zf_12_3, zp_12_3, zp_12_3n, zf_12_4, zp_12_4, zp_12_4n, zf_12_5, zp_12_5, zf_12_6, zp_12_6, zp_12_6n, zf_12_7, zp_12_7, zp_12_7n, zf_12_8, zp_12_8, zp_12_8n, zf_12_9, zp_12_9, if_pos c1, r, e, zbk_v, zts_s, if_neg g, List.cons_append, List.nil_append]
theorem d_106 (hc : zCdC h c q ma A B C P j) (ho : ∀ x, x ∈ q → x.1 = nI 115 → ∃ s, s ≤ 8 ∧ x.2.2.1 = nI s) : zcall zP sv (d + 2) 106 [.ref c] h = some (.inl (some (.int (nI (yslo q)))), h) := by
  have e := d_106l (sv := sv) (d := d) hc ho q.length 0 (Nat.zero_add _) (Nat.zero_le _)
  rw [show yslo (q.take 0) = 0 from rfl, nI_0] at e
  rw [← e]
  simp (disch := first | exact znw_u | exact znw_i) only [zc_106, zs_106_0, zs_106_1, zs_106_2, zs_106_3]
end
/-- the class with the code of a formula written -/
def zClC (h : zH) (m : Nat) (w : yW) (q : List yI) : Prop := zCls h m w ∧ ∃ ma A B C P, zCdC h (m + 97) q ma A B C P 0
section
variable {h : zH} {m : Nat} {w : yW} {i M : Nat} {t : yT}
theorem zCls_cod {h' : zH} (hc : zCls h m w) (hf : zfr (m + 97) (m + 119) h h') (hd : zCod h' (m + 97)) : zCls h' m w := by
  refine zCls_q hc (zcg_fr hf (by omega)) (zcg_fr hf (by omega)) (zkp_fr hf (by omega)) ?_
  obtain ⟨⟨n1, a1⟩, ⟨n2, a2⟩, ⟨P, a3⟩, ⟨A, B, C, a4⟩, a5, a6⟩ := hc.2.2.2.2.2.2.1
  exact ⟨⟨n1, zTre_cg a1 (zcg_fr hf (by omega))⟩, ⟨n2, zTre_cg a2 (zcg_fr hf (by omega))⟩, ⟨P, zAl_cg a3 (zcg_fr hf (by omega))⟩, ⟨A, B, C, zGau_cg a4 (zcg_fr hf (by omega))⟩, zNum_cg a5 (zcg_fr hf (by omega)), hd⟩
theorem d_tr {a : Nat} (hc : zCls h m w) (ha : m + 139 ≤ a) (ht : zTre h a (ysz t) (ypo 0 t)) (hk : ytok t) (h1M : 1 ≤ M) (hM : M ≤ 4) : ∃ h', zcall zP sv (d + 20) 107 [.ref (m + 97), .ref a, .int (nI M)] h = some (.inl none, h') ∧ zClC h' m w (yco M t 0 0) ∧ zfr (m + 97) (m + 119) h h' := by
  obtain ⟨h', A, B, C, P, e, s, f⟩ := d_107 (sv := sv) (d := d) (c := m + 97) (by omega) hc.2.2.2.2.2.2.1.2.2.2.2.2 ht hk h1M hM
  exact ⟨h', e, ⟨zCls_cod hc f (zCod_of s), _, _, _, _, _, s⟩, f⟩
/-- the code of a formula on the machine that is set -/
theorem d_trq (hc : zCls h m w) (hi : (ycur w).1[i]? = some t) (hR : (ycur w).2.2.1 = nI M) (h1M : 1 ≤ M) (hM : M ≤ 4) : ∃ (a : Nat) (h' : zH), zcall zP sv (d + 47) 70 [.ref m, .int (nI i)] h = some (.inl (some (.ref a)), h) ∧ zcall zP sv (d + 47) 171 [.ref (m + 3)] h = some (.inl (some (.int (nI M))), h) ∧ (∀ X : zR, zrc (h.1 (m + 3)) 3 X = X) ∧ (∀ X : zR, zrc (h.1 (m + 97)) 12 X = X) ∧ zcall zP sv (d + 47) 107 [.ref (m + 97), .ref a, .int (nI M)] h = some (.inl none, h') ∧ zClC h' m w (yco M t 0 0) ∧ zfr (m + 97) (m + 119) h h' ∧ ytok t := by
  obtain ⟨a, e0, a1, a2, a3, a4⟩ := d_70k (sv := sv) (d := d + 45) hc hi
  obtain ⟨S, s1, s2⟩ := zcur_ex hc
  have e1 : zcall zP sv (d + 47) 171 [.ref (m + 3)] h = _ := d_171 (d := d + 46) s1
  rw [s2.1, hR] at e1
  obtain ⟨h', e2, s3, f⟩ := d_tr (sv := sv) (d := d + 27) hc a1 a3 a4 h1M hM
  obtain ⟨⟨le, ma, c0⟩, _⟩ := hc.2.2.2.2.2.2.1.2.2.2.2.2
  exact ⟨a, h', e0, e1, fun X => by rw [s1.1]; exact zrc_k, fun X => by rw [c0]; exact zrc_k, e2, s3, f, a4⟩
end
end ZRD
