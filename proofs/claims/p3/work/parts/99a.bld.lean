section ZSA
variable {sv : Nat → Value} {d : Nat}
/-- a builder at r with the bytes B at v: it holds o -/
def zBl (h : zH) (r v : Nat) (B o : List Int32) : Prop := (∃ u : Int32, h.1 r = (2, [.ref v, .int 0, .int u, .int (nI o.length)])) ∧ h.1 v = (24, B.map Value.int) ∧ (r < h.2.1 ∧ v < h.2.1 ∧ v ≠ r) ∧ o.length ≤ B.length ∧ B.take o.length = o ∧ B.length ≤ 1000 ∧ ∀ x, x ∈ B → zty 6 (.int x) = true
def zbo (r v : Nat) (B B' : List Int32) (h h' : zH) : Prop := (∀ q, q < h.2.1 → q ≠ r → q ≠ v → h'.1 q = h.1 q) ∧ h.2.1 ≤ h'.2.1 ∧ h'.2.1 + B.length ≤ h.2.1 + B'.length ∧ h'.2.2 + 2 * B.length ≤ h.2.2 + 2 * B'.length ∧ B.length ≤ B'.length
theorem zbo_rfl {r v : Nat} {B : List Int32} {h : zH} : zbo r v B B h h := ⟨fun _ _ _ _ => rfl, Nat.le_refl _, Nat.le_refl _, Nat.le_refl _, Nat.le_refl _⟩
theorem zbo_tr {r v v' : Nat} {B B' B'' : List Int32} {h h' h'' : zH} (h1 : zbo r v B B' h h') (hv : v' = v ∨ h.2.1 ≤ v') (h2 : zbo r v' B' B'' h' h'') : zbo r v B B'' h h'' := by
  obtain ⟨a1, a2, a3, a4, a5⟩ := h1
  obtain ⟨b1, b2, b3, b4, b5⟩ := h2
  exact ⟨fun q q1 q2 q3 => (b1 q (by omega) q2 (by omega)).trans (a1 q q1 q2 q3), by omega, by omega, by omega, by omega⟩
/-- what an append does -/
def zAd (r v : Nat) (B o : List Int32) (h : zH) (res : zR) (val : Option Value) (lo hi : Nat) : Prop := ∃ (h' : zH) (v' : Nat) (B' p : List Int32), res = some (.inl val, h') ∧ zBl h' r v' B' (o ++ p) ∧ (v' = v ∨ h.2.1 ≤ v') ∧ zbo r v B B' h h' ∧ lo ≤ p.length ∧ p.length ≤ hi
theorem zBl_rc {h : zH} {r v : Nat} {B o : List Int32} (hb : zBl h r v B o) (X : zR) : zrc (h.1 r) 2 X = X := by
  obtain ⟨⟨u, e⟩, _⟩ := hb
  rw [e]
  exact zrc_k
theorem d_8 {h : zH} {r v : Nat} {B o : List Int32} (hs : sv 0 = .int (nI 1)) (hb : zBl h r v B o) : zcall zP sv (d + 1) 8 [.ref r] h = some (.inl (some (.int (nI 1))), h) := by
  obtain ⟨⟨u, e⟩, _⟩ := hb
  simp only [zc_8, zs_8_0, zs_8_3, zs_8_6, zs_8_6n, zs_8_7, zs_8_10, zs_8_13, zs_8_14, zs_8_17, zs_8_18, hs, nI_1e0, e, zrc_2, zf_2_0, zp_2_0, zp_2_0n, zf_2_1, zp_2_10, zp_2_11, zf_2_2, zp_2_20, zp_2_21, zf_2_3, zp_2_3, zgd_t, zty_51, ↓reduceIte]
theorem zsh_l {x : Int32} : x <<< ((0 : Int32) &&& 31) = x := by
  have : (0 : Int32) &&& 31 = 0 := by decide
  rw [this]
  exact Int32.shiftLeft_zero
theorem zsh_r {x : Int32} : x >>> ((0 : Int32) &&& 31) = x := by
  have : (0 : Int32) &&& 31 = 0 := by decide
  rw [this]
  exact Int32.shiftRight_zero
theorem nI_neg {n : Nat} (hn : n < 2 ^ 31) : (-(nI n)).toInt = -(n : Int) := by
  rw [Int32.toInt_neg, nI_toInt hn]
  exact Int.bmod_eq_of_le (by omega) (by omega)
theorem nI_sp {k n : Nat} (hk : k < 2 ^ 30) (hn : n < 2 ^ 30) : (0 < nI k - nI n) = (n < k) := by
  apply propext
  have z0 : (0 : Int32).toInt = 0 := rfl
  have e : (nI k - nI n).toInt = (k : Int) - n := by
    rw [Int32.toInt_sub, nI_toInt (by omega), nI_toInt (by omega)]
    exact Int.bmod_eq_of_le (by omega) (by omega)
  constructor
  · intro q
    have := Int32.lt_iff_toInt_lt.mp q
    omega
  · intro q
    apply Int32.lt_iff_toInt_lt.mpr
    omega
theorem d_6 {L k : Nat} {h : zH} (hL : L ≤ 1000) (hk : k ≤ 1000) (hkL : L < k) : zcall zP sv (d + 1) 6 [.int (nI L), .int (nI k - nI L), .int (nI L + nI 2)] h = some (.inl (some (.int (nI (max k (2 * L + 2))))), h) := by
  have e1 : nI k - nI L = nI (k - L) := nI_subn (by omega)
  have e2 : nI L + nI 2 = nI (L + 2) := nI_add L 2
  have e3 : (if nI (k - L) < nI (L + 2) then nI (L + 2) else nI (k - L)) = nI (max (k - L) (L + 2)) := nI_ltn (by omega) (by omega)
  have e4 : nI L + nI (max (k - L) (L + 2)) = nI (max k (2 * L + 2)) := by
    rw [nI_add]
    congr 1
    omega
  have e4' : nI (max (k - L) (L + 2)) + nI L = nI (max k (2 * L + 2)) := by
    rw [nI_add]
    congr 1
    omega
  have c1 : (0 : Int32) < nI (max k (2 * L + 2)) := by rw [← nI_0]; exact nI_lt (by omega) (by omega)
  have c2 : ¬ nI 2147483639 < nI (max k (2 * L + 2)) := nI_nlt (by omega) (by omega)
  rw [e1, e2]
  simp (disch := first | exact znw_u | exact znw_i) only [zc_6, zs_6_0, zs_6_1, zs_6_2, zs_6_3, zs_6_6, zs_6_7, zs_6_8, zs_6_9, zs_6_10, zs_6_13, zs_6_14, zs_6_16, zs_6_19, zs_6_20, zs_6_21, zs_6_22, e3, e4, e4', if_pos c1, if_neg c2, zgd_t]
theorem d_5 {h : zH} {r v k : Nat} {B o : List Int32} (hb : zBl h r v B o) (hk : k ≤ 1000) (hkL : B.length < k) : zcall zP sv (d + 2) 5 [.ref r, .int (nI k)] h = some (.inl (some (.int (nI (max k (2 * B.length + 2))))), h) := by
  obtain ⟨⟨u, e⟩, ev, _, _, _, hL, _⟩ := hb
  have e6 := d_6 (sv := sv) (d := d) (h := h) hL hk hkL
  have hl : (B.map Value.int).length = B.length := List.length_map ..
  have cm : ¬ nI (max k (2 * B.length + 2)) = nI 2147483647 := fun q => by
    have := (nI_eq (by omega) (by omega)).mp q
    omega
  simp (disch := first | exact znw_u | exact znw_i) only [zc_5, zs_5_0, zs_5_0n, zs_5_1, zs_5_4, zs_5_5, zs_5_6, zs_5_7, zs_5_7n, zs_5_8, zs_5_11, zs_5_12, zs_5_13, zs_5_14, zs_5_15, zs_5_16, zs_5_18, zs_5_19, zs_5_21, zs_5_22, zs_5_23, zs_5_23n, zs_5_24, zs_5_27, zs_5_28, zs_5_29, zs_5_32, zs_5_34, zs_5_36, zs_5_38, zs_5_51, zs_5_53, zs_5_53n, zs_5_54, zs_5_57, zs_5_58, e, zrc_2, zf_2_0, zp_2_0, zp_2_0n, zf_2_1, zp_2_10, zp_2_11, zf_2_2, zp_2_20, zp_2_21, zf_2_3, zp_2_3, ev, zaln_k (show 20 ≤ 24 by omega), hl, zsh_l, zsh_r, e6, if_neg cm, zbk_v, zts_s, List.cons_append, List.nil_append]
theorem zcopy_k {pc a b n L : Nat} {ls : List Slot} {st : List Value} {h : zH} {va vb : List Value} (ha : h.1 a = (24, va)) (hb : h.1 b = (24, vb)) (hab : a ≠ b) (hn : n ≤ va.length) (hm : n ≤ vb.length) (h3 : n < 2 ^ 31) (hst : st.length ≤ 4) (hty : va.all (zty 6) = true) : zcopy pc ls (.int (nI n) :: .int 0 :: .ref b :: .int 0 :: .ref a :: st) h = zgo pc ls st (zup h b (24, va.take n ++ vb.drop n)) := by
  have z0 : (0 : Int32).toNatClampNeg = 0 := rfl
  have zi : ¬ (0 : Int32) < 0 := by decide
  unfold zcopy
  simp only [ha, hb, z0, nI_clamp h3, Nat.zero_add, List.take_zero, List.drop_zero, List.nil_append]
  rw [if_pos ⟨trivial, trivial, hab, zi, zi, nI_pos h3, hn, hm, hst, hty⟩]
theorem d_7 {h : zH} {r v n : Nat} {B o : List Int32} (hb : zBl h r v B o) (hn : n ≤ 1000) (hnL : B.length < n) : ∃ h', zcall zP sv (d + 1) 7 [.ref v, .int (nI n)] h = some (.inl (some (.ref h.2.1)), h') ∧ h'.1 h.2.1 = (24, (B ++ List.replicate (n - B.length) 0).map Value.int) ∧ (∀ q, q < h.2.1 → h'.1 q = h.1 q) ∧ h'.2.1 = h.2.1 + 1 ∧ h'.2.2 = h.2.2 + n := by
  obtain ⟨⟨u, e⟩, ev, ⟨hr, hv, hvr⟩, _, _, hL, hty⟩ := hb
  have hl : (B.map Value.int).length = B.length := List.length_map ..
  have c1 : ¬ nI n = nI B.length := fun q => by
    have := (nI_eq (by omega) (by omega)).mp q
    omega
  obtain ⟨h1, hh1⟩ : ∃ h1, h1 = znew h (24, List.replicate n (.int 0)) n := ⟨_, rfl⟩
  have g1 : h1.1 h.2.1 = (24, List.replicate n (.int 0)) := by rw [hh1, zext_of, zext_0]
  have g2 : h1.1 v = (24, B.map Value.int) := by rw [hh1, zext_of, zext_lo hv, ev]
  have em : (if nI n < nI B.length then nI n else nI B.length) = nI B.length := if_neg (nI_nlt (by omega) (by omega))
  have hcp := zcopy_k (L := 0) (pc := 31) (ls := [.val (.ref v), .val (.int (nI n)), .val (.ref h.2.1)]) (st := []) (h := h1) (n := B.length) g2 g1 (by omega) (by rw [hl]; exact Nat.le_refl _) (by rw [List.length_replicate]; omega) (by omega) (Nat.zero_le _) (by
    rw [List.all_map, List.all_eq_true]
    exact hty)
  have ek : (B.map Value.int).take B.length ++ (List.replicate n (Value.int 0)).drop B.length = (B ++ List.replicate (n - B.length) 0).map Value.int := by
    rw [List.map_append, List.take_of_length_le (by rw [hl]; exact Nat.le_refl _), List.drop_replicate, List.map_replicate]
  rw [ek] at hcp
  refine ⟨zup h1 h.2.1 (24, (B ++ List.replicate (n - B.length) 0).map Value.int), ?_, zup_at, fun q hq => by rw [zup_ne (by omega), hh1, zext_of, zext_lo hq], by rw [hh1]; rfl, by rw [hh1]; rfl⟩
  simp (disch := first | exact znw_u | exact znw_i | exact znw_r) only [zc_7, zs_7_0, zs_7_1, zs_7_2, zs_7_3, zs_7_14, zs_7_15, zs_7_17, zs_7_18, zs_7_19, zs_7_20, zs_7_21, zs_7_22, zs_7_23, zs_7_24, zs_7_25, ev, zaln_k (show 20 ≤ 24 by omega), hl, if_neg c1, znwa_k (show n ≤ 65536 by omega), ← hh1, g2, em, zs_7_28, hcp, znx, zgo, zs_7_31, zs_7_32]
/-- room for k signs -/
theorem d_4 {h : zH} {r v k : Nat} {B o : List Int32} (hb : zBl h r v B o) (hk : k ≤ 450) : ∃ (h' : zH) (v' : Nat) (B' : List Int32), zcall zP sv (d + 3) 4 [.ref r, .int (nI k)] h = some (.inl none, h') ∧ zBl h' r v' B' o ∧ (v' = v ∨ h.2.1 ≤ v') ∧ zbo r v B B' h h' ∧ k ≤ B'.length := by
  have hb' := hb
  obtain ⟨⟨u, e⟩, ev, ⟨hr, hv, hvr⟩, h3, h4, hL, hty⟩ := hb
  have hl : (B.map Value.int).length = B.length := List.length_map ..
  by_cases c : B.length < k
  · have c1 : (0 < nI k - nI B.length) := by rw [nI_sp (by omega) (by omega)]; exact c
    have e5 : zcall zP sv (d + 2) 5 [.ref r, .int (nI k)] h = _ := d_5 hb' (show k ≤ 1000 by omega) c
    obtain ⟨h1, e7, g1, g2, g3, g4⟩ := d_7 (sv := sv) (d := d + 1) hb' (n := max k (2 * B.length + 2)) (by omega) (by omega)
    have er : h1.1 r = (2, [.ref v, .int 0, .int u, .int (nI o.length)]) := by rw [g2 r hr, e]
    have hl2 : (B ++ List.replicate (max k (2 * B.length + 2) - B.length) 0).length = max k (2 * B.length + 2) := by
      rw [List.length_append, List.length_replicate]
      omega
    have rc : ∀ X : zR, zrc (h.1 r) 2 X = X := fun X => zBl_rc hb' X
    refine ⟨zup h1 r (2, [.ref h.2.1, .int 0, .int u, .int (nI o.length)]), h.2.1, B ++ List.replicate (max k (2 * B.length + 2) - B.length) 0, ?_, ⟨⟨u, zup_at⟩, by rw [zup_ne (by omega), g1], ⟨by show r < h1.2.1; omega, by show h.2.1 < h1.2.1; omega, by omega⟩, by rw [hl2]; omega, by rw [List.take_append_of_le_length h3]; exact h4, by rw [hl2]; omega, ?_⟩, Or.inr (Nat.le_refl _), ⟨fun q q1 q2 q3 => by rw [zup_ne q2, g2 q q1], by show h.2.1 ≤ h1.2.1; omega, by rw [hl2]; show h1.2.1 + _ ≤ _; omega, by rw [hl2]; show h1.2.2 + _ ≤ _; omega, by rw [hl2]; omega⟩, by rw [hl2]; omega⟩
    · simp (disch := first | exact znw_u | exact znw_i) only [zc_4, zs_4_0, zs_4_0n, zs_4_1, zs_4_4, zs_4_5, zs_4_5n, zs_4_6, zs_4_9, zs_4_10, zs_4_11, zs_4_12, zs_4_13, zs_4_14, zs_4_17, zs_4_17n, zs_4_18, zs_4_18n, zs_4_19, zs_4_22, zs_4_22n, zs_4_23, zs_4_24, zs_4_27, zs_4_27n, zs_4_28, zs_4_31, zs_4_32, zs_4_35, zs_4_35n, zs_4_38, e, er, zrc_2, zf_2_0, zp_2_0, zp_2_0n, zf_2_1, zp_2_10, zp_2_11, zf_2_2, zp_2_20, zp_2_21, zf_2_3, zp_2_3, ev, zaln_k (show 20 ≤ 24 by omega), hl, zsh_l, zsh_r, if_pos c1, rc, e5, e7, zbk_v, zts_s, List.cons_append, List.nil_append]
    · intro x hx
      rw [List.mem_append] at hx
      rcases hx with hx | hx
      · exact hty x hx
      · rw [List.eq_of_mem_replicate hx]
        decide
  · have c1 : ¬ (0 < nI k - nI B.length) := by rw [nI_sp (by omega) (by omega)]; exact c
    refine ⟨h, v, B, ?_, hb', Or.inl rfl, zbo_rfl, by omega⟩
    simp (disch := first | exact znw_u | exact znw_i) only [zc_4, zs_4_0, zs_4_0n, zs_4_1, zs_4_4, zs_4_5, zs_4_5n, zs_4_6, zs_4_9, zs_4_10, zs_4_11, zs_4_12, zs_4_13, zs_4_14, zs_4_17, zs_4_17n, zs_4_18, zs_4_18n, zs_4_19, zs_4_22, zs_4_22n, zs_4_23, zs_4_24, zs_4_27, zs_4_27n, zs_4_28, zs_4_31, zs_4_32, zs_4_35, zs_4_35n, zs_4_38, e, zrc_2, zf_2_0, zp_2_0, zp_2_0n, zf_2_1, zp_2_10, zp_2_11, zf_2_2, zp_2_20, zp_2_21, zf_2_3, zp_2_3, ev, zaln_k (show 20 ≤ 24 by omega), hl, zsh_l, zsh_r, if_neg c1]
/-- emptied -/
theorem d_2 {h : zH} {r v : Nat} {B o : List Int32} (hb : zBl h r v B o) : ∃ h', zcall zP sv (d + 5) 2 [.ref r, .int 0] h = some (.inl none, h') ∧ zBl h' r v B [] ∧ zbo r v B B h h' := by
  have hb' := hb
  obtain ⟨⟨u, e⟩, ev, ⟨hr, hv, hvr⟩, h3, h4, hL, hty⟩ := hb
  have rc : ∀ X : zR, zrc (h.1 r) 2 X = X := fun X => zBl_rc hb' X
  have e4 : zcall zP sv (d + 3) 4 [.ref r, .int 0] h = some (.inl none, h) := by
    have hl : (B.map Value.int).length = B.length := List.length_map ..
    have c1 : ¬ (0 < nI 0 - nI B.length) := by rw [nI_sp (by omega) (by omega)]; omega
    rw [nI_0] at c1
    simp (disch := first | exact znw_u | exact znw_i) only [zc_4, zs_4_0, zs_4_0n, zs_4_1, zs_4_4, zs_4_5, zs_4_5n, zs_4_6, zs_4_9, zs_4_10, zs_4_11, zs_4_12, zs_4_13, zs_4_14, zs_4_17, zs_4_17n, zs_4_18, zs_4_18n, zs_4_19, zs_4_22, zs_4_22n, zs_4_23, zs_4_24, zs_4_27, zs_4_27n, zs_4_28, zs_4_31, zs_4_32, zs_4_35, zs_4_35n, zs_4_38, e, zrc_2, zf_2_0, zp_2_0, zp_2_0n, zf_2_1, zp_2_10, zp_2_11, zf_2_2, zp_2_20, zp_2_21, zf_2_3, zp_2_3, ev, zaln_k (show 20 ≤ 24 by omega), hl, zsh_l, zsh_r, if_neg c1]
  have c0 : ¬ nI o.length < 0 := nI_pos (by omega)
  have z0 : ¬ (0 : Int32) < 0 := by decide
  by_cases c : 0 < o.length
  · have c1 : 0 < nI o.length := by rw [← nI_0]; exact nI_lt c (by omega)
    refine ⟨zup (zup h r (2, [.ref v, .int 0, .int (nI 1), .int (nI o.length)])) r (2, [.ref v, .int 0, .int (nI 1), .int 0]), ?_, ⟨⟨nI 1, by rw [zup_at]; rfl⟩, by rw [zup_ne hvr, zup_ne hvr, ev], ⟨hr, hv, hvr⟩, Nat.zero_le _, rfl, hL, hty⟩, ⟨fun q q1 q2 q3 => by rw [zup_ne q2, zup_ne q2], Nat.le_refl _, Nat.le_refl _, Nat.le_refl _, Nat.le_refl _⟩⟩
    have e3 : zcall zP sv (d + 4) 3 [.ref r, .int 0] h = some (.inl none, zup (zup h r (2, [.ref v, .int 0, .int (nI 1), .int (nI o.length)])) r (2, [.ref v, .int 0, .int (nI 1), .int 0])) := by
      simp (disch := first | exact znw_u | exact znw_i) only [zc_3, zs_3_0, zs_3_1, zs_3_13, zs_3_13n, zs_3_14, zs_3_15, zs_3_18, zs_3_18n, zs_3_19, zs_3_22, zs_3_23, zs_3_26, zs_3_26n, zs_3_27, zs_3_30, zs_3_33, zs_3_33n, zs_3_34, zs_3_37, zs_3_37n, zs_3_38, zs_3_41, zs_3_48, zs_3_48n, zs_3_49, zs_3_52, zs_3_52n, zs_3_53, zs_3_56, zs_3_63, zs_3_63n, zs_3_64, zs_3_67, zs_3_68, zs_3_71, zs_3_71n, zs_3_72, zs_3_73, zs_3_76, zs_3_76n, zs_3_77, zs_3_78, zs_3_81, if_neg z0, rc, e4, e, zup_at, zrc_2, zf_2_0, zp_2_0, zp_2_0n, zf_2_1, zp_2_10, zp_2_11, zf_2_2, zp_2_20, zp_2_21, zf_2_3, zp_2_3, if_neg c0, if_pos c1, zbk_v, zts_n, List.cons_append, List.nil_append]
    simp (disch := first | exact znw_u | exact znw_i) only [zc_2, zs_2_0, zs_2_0n, zs_2_1, zs_2_2, zs_2_5, rc, e3, zbk_v, zts_n, List.cons_append, List.nil_append]
  · have c' : o.length = 0 := by omega
    rw [c', nI_0] at e c0
    refine ⟨zup h r (2, [.ref v, .int 0, .int u, .int 0]), ?_, ⟨⟨u, by rw [zup_at]; rfl⟩, by rw [zup_ne hvr, ev], ⟨hr, hv, hvr⟩, Nat.zero_le _, rfl, hL, hty⟩, ⟨fun q q1 q2 q3 => zup_ne q2, Nat.le_refl _, Nat.le_refl _, Nat.le_refl _, Nat.le_refl _⟩⟩
    have e3 : zcall zP sv (d + 4) 3 [.ref r, .int 0] h = some (.inl none, zup h r (2, [.ref v, .int 0, .int u, .int 0])) := by
      simp (disch := first | exact znw_u | exact znw_i) only [zc_3, zs_3_0, zs_3_1, zs_3_13, zs_3_13n, zs_3_14, zs_3_15, zs_3_18, zs_3_18n, zs_3_19, zs_3_22, zs_3_23, zs_3_26, zs_3_26n, zs_3_27, zs_3_30, zs_3_33, zs_3_33n, zs_3_34, zs_3_37, zs_3_37n, zs_3_38, zs_3_41, zs_3_48, zs_3_48n, zs_3_49, zs_3_52, zs_3_52n, zs_3_53, zs_3_56, zs_3_63, zs_3_63n, zs_3_64, zs_3_67, zs_3_68, zs_3_71, zs_3_71n, zs_3_72, zs_3_73, zs_3_76, zs_3_76n, zs_3_77, zs_3_78, zs_3_81, if_neg z0, rc, e4, e, zrc_2, zf_2_0, zp_2_0, zp_2_0n, zf_2_1, zp_2_10, zp_2_11, zf_2_2, zp_2_20, zp_2_21, zf_2_3, zp_2_3, zbk_v, zts_n, List.cons_append, List.nil_append]
    simp (disch := first | exact znw_u | exact znw_i) only [zc_2, zs_2_0, zs_2_0n, zs_2_1, zs_2_2, zs_2_5, rc, e3, zbk_v, zts_n, List.cons_append, List.nil_append]
theorem d_13 {h : zH} {r v : Nat} {B o : List Int32} (hb : zBl h r v B o) : zcall zP sv (d + 2) 13 [.ref r] h = some (.inl (some (.int (nI o.length))), h) := by
  have rc : ∀ X : zR, zrc (h.1 r) 2 X = X := fun X => zBl_rc hb X
  obtain ⟨⟨u, e⟩, _⟩ := hb
  have e14 : zcall zP sv (d + 1) 14 [.ref r] h = some (.inl (some (.int (nI o.length))), h) := by
    simp only [zc_14, zs_14_0, zs_14_0n, zs_14_1, zs_14_4, e, zrc_2, zf_2_0, zp_2_0, zp_2_0n, zf_2_1, zp_2_10, zp_2_11, zf_2_2, zp_2_20, zp_2_21, zf_2_3, zp_2_3]
  simp only [zc_13, zs_13_0, zs_13_0n, zs_13_1, zs_13_4, rc, e14, zbk_v, zts_s, List.cons_append, List.nil_append]
end ZSA
