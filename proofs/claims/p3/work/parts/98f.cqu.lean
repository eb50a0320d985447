section ZRF
variable {sv : Nat → Value} {d : Nat} {h : zH} {m : Nat} {w : yW} {i M : Nat} {t : yT}
/-- occurrences and variables among a formula's nodes -/
def yoc (c : Int32) (ns : List yN) : Nat := ns.countP (fun nd => decide (nd.1 = nI 118 ∧ nd.2.1 = c))
theorem d_38r {a : Nat} {c : Int32} {ns : List yN} {mt : Nat} {l0 l1 : Slot} (ht : zTre h a mt ns) (hl : ns.length < 2 ^ 30) : ∀ n k, k + n = ns.length → zrun zP sv (zcall zP sv (d + 3)) 38 16 [l0, l1, .val (.int c), .val (.ref a), .val (.int (nI (yoc c (ns.take k)))), .val (.int (nI k))] [] h = some (.inl (some (.int (nI (yoc c ns)))), h) := by
  have e1 : zcall zP sv (d + 3) 182 [.ref a] h = _ := d_182 (d := d + 2) ht
  have r : ∀ X : zR, zrc (h.1 a) 6 X = X := fun X => zTre_rc ht
  intro n
  induction n with
  | zero =>
    intro k hk
    obtain rfl : k = ns.length := by omega
    rw [List.take_length]
    simp only [zs_38_16, zs_38_18, zs_38_19, zs_38_22, zs_38_44, zs_38_46, r, e1, zbk_v, zts_s, Int32.lt_irrefl, ↓reduceIte, List.cons_append, List.nil_append]
  | succ n ih =>
    intro k hk
    have c1 : nI k < nI ns.length := nI_lt (by omega) (by omega)
    obtain ⟨nd, hnd⟩ := ynd_ex (ns := ns) (i := k) (by omega)
    have e2 : zcall zP sv (d + 3) 188 [.ref a, .int (nI k), .int c] h = _ := d_188 (d := d) ht hnd
    have i2 := ih (k + 1) (by omega)
    have hta : ns.take (k + 1) = ns.take k ++ [nd] := by rw [List.take_add_one, hnd]; rfl
    have hcc : yoc c (ns.take (k + 1)) = yoc c (ns.take k) + (if nd.1 = nI 118 ∧ nd.2.1 = c then 1 else 0) := by
      rw [hta]
      unfold yoc
      rw [List.countP_append, List.countP_singleton]
      by_cases g : nd.1 = nI 118 ∧ nd.2.1 = c
      · rw [decide_eq_true g, if_pos g]; rfl
      · rw [decide_eq_false g, if_neg g]; rfl
    have eb : ∀ z, zrun zP sv (zcall zP sv (d + 3)) 38 38 [l0, l1, .val (.int c), .val (.ref a), .val (.int z), .val (.int (nI k))] [] h = zrun zP sv (zcall zP sv (d + 3)) 38 16 [l0, l1, .val (.int c), .val (.ref a), .val (.int z), .val (.int (nI (k + 1)))] [] h := fun z => by rw [zs_38_38, zs_38_41, nI_1']
    rw [← i2, ← eb, hcc]
    by_cases g : nd.1 = nI 118 ∧ nd.2.1 = c
    · rw [if_pos g] at e2 ⊢
      simp (disch := exact znw_u) only [zs_38_16, zs_38_18, zs_38_19, zs_38_22, zs_38_25, zs_38_26, zs_38_28, zs_38_29, zs_38_32, zs_38_35, r, e1, e2, if_pos c1, nI_1e0, nI_1', zbk_v, zts_s, ↓reduceIte, List.cons_append, List.nil_append]
    · rw [if_neg g] at e2 ⊢
      simp (disch := exact znw_u) only [zs_38_16, zs_38_18, zs_38_19, zs_38_22, zs_38_25, zs_38_26, zs_38_28, zs_38_29, zs_38_32, r, e1, e2, if_pos c1, nI_1e0, Nat.add_zero, zbk_v, zts_s, ↓reduceIte, List.cons_append, List.nil_append]
theorem d_38 {c : Int32} (hc : zCls h m w) (hi : (ycur w).1[i]? = some t) (hl : ylet c = true) : zEnd h m (zcall zP sv (d + 48) 38 [.ref m, .int (nI i), .int c] h) 0 0 (.inl (some (.int (nI (yoc c (ypo 0 t)))))) w := by
  obtain ⟨a, e0, a1, a2, a3, a4⟩ := d_70k (sv := sv) (d := d + 45) hc hi
  have hsz := a4.2.1
  have e1 := d_38r (sv := sv) (d := d + 44) (c := c) (l0 := .val (.ref m)) (l1 := .val (.int (nI i))) a3 (by rw [ypo_len]; omega) (ypo 0 t).length 0 (Nat.zero_add _)
  rw [show yoc c ((ypo 0 t).take 0) = 0 from rfl, nI_0] at e1
  have e2 : zcall zP sv (d + 47) 72 [.int c] h = _ := d_72 (d := d + 46) hl
  refine zEnd_s hc ?_
  rw [← e1]
  simp (disch := first | exact znw_u | exact znw_i) only [zc_38, zs_38_0, zs_38_1, zs_38_2, zs_38_5, zs_38_6, zs_38_7, zs_38_10, zs_38_11, zs_38_13, zs_38_14, zEC1 hc, e0, e2, zbk_v, zts_s, zts_n, List.cons_append, List.nil_append]
def yvr (ns : List yN) : Bool := ns.any (fun nd => decide (nd.1 = nI 118))
theorem d_40r {a : Nat} {ns : List yN} {mt : Nat} {l0 l1 : Slot} (ht : zTre h a mt ns) (hl : ns.length < 2 ^ 30) : ∀ n k, k + n = ns.length → zrun zP sv (zcall zP sv (d + 3)) 40 8 [l0, l1, .val (.ref a), .val (.int (nI k))] [] h = some (.inl (some (.int (yb (!yvr (ns.drop k))))), h) := by
  have e1 : zcall zP sv (d + 3) 182 [.ref a] h = _ := d_182 (d := d + 2) ht
  have r : ∀ X : zR, zrc (h.1 a) 6 X = X := fun X => zTre_rc ht
  intro n
  induction n with
  | zero =>
    intro k hk
    obtain rfl : k = ns.length := by omega
    rw [List.drop_length, show (!yvr []) = true from rfl, yb_t]
    simp only [zs_40_0, zs_40_0n, zs_40_1, zs_40_2, zs_40_5, zs_40_5n, zs_40_6, zs_40_7, zs_40_8, zs_40_9, zs_40_9n, zs_40_10, zs_40_13, zs_40_16, zs_40_16n, zs_40_17, zs_40_18, zs_40_21, zs_40_23, zs_40_26, zs_40_27, zs_40_34, zs_40_35, r, e1, zbk_v, zts_s, Int32.lt_irrefl, zgd_t, zty_51, ↓reduceIte, List.cons_append, List.nil_append]
  | succ n ih =>
    intro k hk
    have c1 : nI k < nI ns.length := nI_lt (by omega) (by omega)
    obtain ⟨nd, hnd⟩ := ynd_ex (ns := ns) (i := k) (by omega)
    have e2 : zcall zP sv (d + 3) 184 [.ref a, .int (nI k)] h = _ := d_184 (d := d + 1) ht hnd
    have hdr : ns.drop k = nd :: ns.drop (k + 1) := by
      rw [List.drop_eq_getElem_cons (by omega)]
      rw [List.getElem?_eq_getElem (by omega)] at hnd
      rw [Option.some.inj hnd]
    have hv : yvr (ns.drop k) = (decide (nd.1 = nI 118) || yvr (ns.drop (k + 1))) := by rw [hdr]; rfl
    by_cases g : nd.1 = nI 118
    · rw [hv, decide_eq_true g, Bool.true_or, Bool.not_true, yb_f]
      simp only [zs_40_0, zs_40_0n, zs_40_1, zs_40_2, zs_40_5, zs_40_5n, zs_40_6, zs_40_7, zs_40_8, zs_40_9, zs_40_9n, zs_40_10, zs_40_13, zs_40_16, zs_40_16n, zs_40_17, zs_40_18, zs_40_21, zs_40_23, zs_40_26, zs_40_27, zs_40_34, zs_40_35, r, e1, e2, if_pos c1, if_pos g, zbk_v, zts_s, zgd_t, zty_50, ↓reduceIte, List.cons_append, List.nil_append]
    · rw [hv, decide_eq_false g, Bool.false_or, ← ih (k + 1) (by omega)]
      have eb : zrun zP sv (zcall zP sv (d + 3)) 40 28 [l0, l1, .val (.ref a), .val (.int (nI k))] [] h = zrun zP sv (zcall zP sv (d + 3)) 40 8 [l0, l1, .val (.ref a), .val (.int (nI (k + 1)))] [] h := by rw [zs_40_28, zs_40_31, nI_1']
      rw [← eb]
      simp only [zs_40_0, zs_40_0n, zs_40_1, zs_40_2, zs_40_5, zs_40_5n, zs_40_6, zs_40_7, zs_40_8, zs_40_9, zs_40_9n, zs_40_10, zs_40_13, zs_40_16, zs_40_16n, zs_40_17, zs_40_18, zs_40_21, zs_40_23, zs_40_26, zs_40_27, zs_40_34, zs_40_35, r, e1, e2, if_pos c1, if_neg g, zbk_v, zts_s, ↓reduceIte, List.cons_append, List.nil_append]
theorem d_40 (hc : zCls h m w) (hi : (ycur w).1[i]? = some t) : zEnd h m (zcall zP sv (d + 48) 40 [.ref m, .int (nI i)] h) 0 0 (.inl (some (.int (yb (!yvr (ypo 0 t)))))) w := by
  obtain ⟨a, e0, a1, a2, a3, a4⟩ := d_70k (sv := sv) (d := d + 45) hc hi
  have hsz := a4.2.1
  have e1 := d_40r (sv := sv) (d := d + 44) (l0 := .val (.ref m)) (l1 := .val (.int (nI i))) a3 (by rw [ypo_len]; omega) (ypo 0 t).length 0 (Nat.zero_add _)
  rw [List.drop_zero, nI_0] at e1
  refine zEnd_s hc ?_
  rw [← e1]
  simp (disch := first | exact znw_u | exact znw_i) only [zc_40, zs_40_0, zs_40_1, zs_40_2, zs_40_5, zs_40_6, zs_40_7, zEC1 hc, e0, zbk_v, zts_s, zts_n, List.cons_append, List.nil_append]
theorem zcur_n (hc : zCls h m w) : ∀ D, zcall zP sv (D + 1) 169 [.ref (m + 3)] h = some (.inl (some (.int (nI (ycur w).1.length))), h) := fun D => by
  obtain ⟨S, s1, s2⟩ := zcur_ex hc
  have e := d_169 (sv := sv) (d := D) s1
  rw [s2.2.1.1] at e
  exact e
theorem zcur_r (hc : zCls h m w) : ∀ X : zR, zrc (h.1 (m + 3)) 3 X = X := fun X => by
  obtain ⟨S, s1, s2⟩ := zcur_ex hc
  rw [s1.1]
  exact zrc_k
theorem zcur_ok (hc : zCls h m w) : yAok (ycur w) := by
  obtain ⟨S, s1, s2⟩ := zcur_ex hc
  exact s2.2.2
theorem d_62r (hc : zCls h m w) : ∀ n k, k + n = (ycur w).1.length → zrun zP sv (zcall zP sv (d + 47)) 62 27 [.val (.ref m), .val (.int (nI (ycur w).1.length)), .val (.int (nI (ysu' (ycur w).1 k))), .val (.int (nI k))] [] h = zrun zP sv (zcall zP sv (d + 47)) 62 49 [.val (.ref m), .val (.int (nI (ycur w).1.length)), .val (.int (nI (ysu' (ycur w).1 (ycur w).1.length))), .val (.int (nI (ycur w).1.length))] [] h := by
  have hA := zcur_ok hc
  have h6 := hA.1
  have r1 := zEC1 hc
  intro n
  induction n with
  | zero =>
    intro k hk
    obtain rfl : k = (ycur w).1.length := by omega
    simp only [zs_62_27, zs_62_28, zs_62_29, Int32.lt_irrefl, ↓reduceIte]
  | succ n ih =>
    intro k hk
    have c1 : nI k < nI (ycur w).1.length := nI_lt (by omega) (by omega)
    obtain ⟨b, hb⟩ : ∃ b, (ycur w).1[k]? = some b := ⟨_, List.getElem?_eq_getElem (by omega)⟩
    obtain ⟨a, e0, a1, a2, a3, a4⟩ := d_70k (sv := sv) (d := d + 45) hc hb
    have e1 : zcall zP sv (d + 47) 182 [.ref a] h = _ := d_182 (d := d + 46) a3
    rw [ypo_len] at e1
    have r6 : ∀ X : zR, zrc (h.1 a) 6 X = X := fun X => zTre_rc a3
    rw [← ih (k + 1) (by omega), ysu'_s hb]
    have eb : ∀ z, zrun zP sv (zcall zP sv (d + 47)) 62 43 [.val (.ref m), .val (.int (nI (ycur w).1.length)), .val (.int z), .val (.int (nI k))] [] h = zrun zP sv (zcall zP sv (d + 47)) 62 27 [.val (.ref m), .val (.int (nI (ycur w).1.length)), .val (.int z), .val (.int (nI (k + 1)))] [] h := fun z => by rw [zs_62_43, zs_62_46, nI_1']
    rw [← eb]
    simp (disch := first | exact znw_u | exact znw_i) only [zs_62_27, zs_62_28, zs_62_29, zs_62_32, zs_62_33, zs_62_34, zs_62_35, zs_62_38, zs_62_41, zs_62_42, if_pos c1, r1, e0, r6, e1, nI_add, zbk_v, zts_s, List.cons_append, List.nil_append]
theorem d_62n (hc : zCls h m w) (hn : (ycur w).1.length = 0) : zEnd h m (zcall zP sv (d + 48) 62 [.ref m] h) 1 6 (.inr 5) w := by
  obtain ⟨t1, t2⟩ := zthrow hc
  have q1 := zCls_0 hc
  have e1 : zcall zP sv (d + 47) 169 [.ref (m + 3)] h = _ := zcur_n hc (d + 46)
  rw [hn, nI_0] at e1
  refine ⟨_, ?_, t1, t2⟩
  simp (disch := first | exact znw_u | exact znw_i) only [zc_62, zs_62_0, zs_62_1, zs_62_4, zs_62_7, zs_62_8, zs_62_9, zs_62_12, q1, zECc, zrc_1, zf_1_0, zp_1_0, zp_1_0n, zf_1_1, zp_1_1, zf_1_2, zp_1_2, zp_1_2n, zf_1_3, zp_1_3, zp_1_3n, zf_1_4, zp_1_40, zp_1_41, zf_1_5, zp_1_5, zp_1_5n, zf_1_6, zp_1_6, zp_1_6n, zf_1_7, zp_1_7, zp_1_7n, zf_1_8, zp_1_8, zp_1_8n, zf_1_9, zp_1_9, zp_1_9n, zf_1_10, zp_1_10, zp_1_10n, zf_1_11, zp_1_11, zp_1_11n, zf_1_12, zp_1_12, zp_1_12n, zcur_r hc, e1, zbk_v, zts_s, zext_of, ↓reduceIte, List.cons_append, List.nil_append]
theorem d_62 (hc : zCls h m w) (hn : 0 < (ycur w).1.length) : zEnd h m (zcall zP sv (d + 48) 62 [.ref m] h) 0 0 (.inl (some (.double (FP.ddiv (FP.i2d (nI (ysu' (ycur w).1 (ycur w).1.length))) (FP.i2d (nI (ycur w).1.length)))))) w := by
  have q1 := zCls_0 hc
  have hA := zcur_ok hc
  have h6 := hA.1
  have e1 : zcall zP sv (d + 47) 169 [.ref (m + 3)] h = _ := zcur_n hc (d + 46)
  have e2 := d_62r (sv := sv) (d := d) hc (ycur w).1.length 0 (Nat.zero_add _)
  rw [show ysu' (ycur w).1 0 = 0 from rfl, nI_0] at e2
  have hs := ysu'_le hA.2.1 (ycur w).1.length
  have hz : (nI (ycur w).1.length = 0) = False := eq_false (nI_ne0 hn (by omega))
  have hd := yddiv (ycur w).1.length (by omega) hn (ysu' (ycur w).1 (ycur w).1.length) (by omega)
  refine zEnd_s hc ?_
  simp (disch := first | exact znw_u | exact znw_i) only [zc_62, zs_62_0, zs_62_1, zs_62_4, zs_62_7, zs_62_8, zs_62_9, zs_62_23, zs_62_24, zs_62_25, zs_62_26, q1, zECc, zrc_1, zf_1_0, zp_1_0, zp_1_0n, zf_1_1, zp_1_1, zf_1_2, zp_1_2, zp_1_2n, zf_1_3, zp_1_3, zp_1_3n, zf_1_4, zp_1_40, zp_1_41, zf_1_5, zp_1_5, zp_1_5n, zf_1_6, zp_1_6, zp_1_6n, zf_1_7, zp_1_7, zp_1_7n, zf_1_8, zp_1_8, zp_1_8n, zf_1_9, zp_1_9, zp_1_9n, zf_1_10, zp_1_10, zp_1_10n, zf_1_11, zp_1_11, zp_1_11n, zf_1_12, zp_1_12, zp_1_12n, zcur_r hc, e1, hz, zbk_v, zts_s, ↓reduceIte, List.cons_append, List.nil_append]
  rw [e2]
  simp (disch := first | exact znw_u | exact znw_i) only [zs_62_49, zs_62_50, zs_62_51, zs_62_52, zs_62_53, zs_62_54, hd, zgd_t]
end ZRF
