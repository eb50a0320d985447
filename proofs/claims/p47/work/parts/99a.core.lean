section ZSA
variable {sv : Nat → Value} {d : Nat}
/-- a builder at r with the bytes B at v: it holds o -/
def zBl (h : zH) (r v : Nat) (B o : List Int32) : Prop := (∃ u : Int32, h.1 r = (2, [.ref v, .int 0, .int u, .int (nI o.length)])) ∧ h.1 v = (24, B.map Value.int) ∧ (r < h.2.1 ∧ v < h.2.1 ∧ v ≠ r) ∧ o.length ≤ B.length ∧ B.take o.length = o ∧ B.length ≤ 1000 ∧ ∀ x, x ∈ B → zty 6 (.int x) = true
def zbo (r v : Nat) (B B' : List Int32) (h h' : zH) : Prop := (∀ q, q < h.2.1 → q ≠ r → q ≠ v → h'.1 q = h.1 q) ∧ h.2.1 ≤ h'.2.1 ∧ h'.2.1 + B.length ≤ h.2.1 + B'.length ∧ h'.2.2 + 2 * B.length ≤ h.2.2 + 2 * B'.length ∧ B.length ≤ B'.length
theorem zbo_rfl {r v : Nat} {B : List Int32} {h : zH} : zbo r v B B h h := ⟨fun _ _ _ _ => rfl, Nat.le_refl _, Nat.le_refl _, Nat.le_refl _, Nat.le_refl _⟩
theorem zbo_tr {r v v' : Nat} {B B' B'' : List Int32} {h h' h'' : zH} (h1 : zbo r v B B' h h') (hv : v' = v ∨ h.2.1 ≤ v') (h2 : zbo r v' B' B'' h' h'') : zbo r v B B'' h h'' := by
  obtain ⟨a1, a2, a3, a4, a5⟩ := h1
  obtain ⟨b1, b2, b3, b4, b5⟩ := h2
  exact ⟨fun q q1 q2 q3 => (b1 q (by omega) q2 (by omega)).trans (a1 q q1 q2 q3), by omega, by omega, by omega, by omega⟩
/-- what an append does -/
def zAd (r v : Nat) (B o : List Int32) (h : zH) (res : zR) (val : Option Value) (lo hi : Nat) : Prop := ∃ (h' : zH) (v' : Nat) (B' p : List Int32), res = some (.inl val, h') ∧ zBl h' r v' B' (o ++ p) ∧ (v' = v ∨ h.2.1 ≤ v') ∧ zbo r v B B' h h' ∧ lo ≤ p.length ∧ p.length ≤ hi
theorem zBl_rc {h : zH} {r v : Nat} {B o : List Int32} (hb : zBl h r v B o) (X : zR) : zrc (h.1 r) 2 X = X := by
  obtain ⟨⟨u, e⟩, _⟩ := hb
  rw [e]
  exact zrc_k
theorem d_8 {h : zH} {r v : Nat} {B o : List Int32} (hs : sv 0 = .int (nI 1)) (hb : zBl h r v B o) : zcall zP sv (d + 1) 8 [.ref r] h = some (.inl (some (.int (nI 1))), h) := by
  obtain ⟨⟨u, e⟩, _⟩ := hb
  simp only [zc_8, zs_8_0, zs_8_3, zs_8_6, zs_8_6n, zs_8_7, zs_8_10, zs_8_13, zs_8_14, zs_8_17, zs_8_18, hs, nI_1e0, e, zrc_2, zf_2_0, zp_2_0, zp_2_0n, zf_2_1, zp_2_10, zp_2_11, zf_2_2, zp_2_20, zp_2_21, zf_2_3, zp_2_3, zgd_t, zty_51, ↓reduceIte]
theorem zsh_l {x : Int32} : x <<< ((0 : Int32) &&& 31) = x := by
  have : (0 : Int32) &&& 31 = 0 := by decide
  rw [this]
  exact Int32.shiftLeft_zero
theorem zsh_r {x : Int32} : x >>> ((0 : Int32) &&& 31) = x := by
  have : (0 : Int32) &&& 31 = 0 := by decide
  rw [this]
  exact Int32.shiftRight_zero
theorem nI_neg {n : Nat} (hn : n < 2 ^ 31) : (-(nI n)).toInt = -(n : Int) := by
  rw [Int32.toInt_neg, nI_toInt hn]
  exact Int.bmod_eq_of_le (by omega) (by omega)
theorem nI_sp {k n : Nat} (hk : k < 2 ^ 30) (hn : n < 2 ^ 30) : (0 < nI k - nI n) = (n < k) := by
  apply propext
  have z0 : (0 : Int32).toInt = 0 := rfl
  have e : (nI k - nI n).toInt = (k : Int) - n := by
    rw [Int32.toInt_sub, nI_toInt (by omega), nI_toInt (by omega)]
    exact Int.bmod_eq_of_le (by omega) (by omega)
  constructor
  · intro q
    have := Int32.lt_iff_toInt_lt.mp q
    omega
  · intro q
    apply Int32.lt_iff_toInt_lt.mpr
    omega
theorem d_6 {L k : Nat} {h : zH} (hL : L ≤ 1000) (hk : k ≤ 1000) (hkL : L < k) : zcall zP sv (d + 1) 6 [.int (nI L), .int (nI k - nI L), .int (nI L + nI 2)] h = some (.inl (some (.int (nI (max k (2 * L + 2))))), h) := by
  have e1 : nI k - nI L = nI (k - L) := nI_subn (by omega)
  have e2 : nI L + nI 2 = nI (L + 2) := nI_add L 2
  have e3 : (if nI (k - L) < nI (L + 2) then nI (L + 2) else nI (k - L)) = nI (max (k - L) (L + 2)) := nI_ltn (by omega) (by omega)
  have e4 : nI L + nI (max (k - L) (L + 2)) = nI (max k (2 * L + 2)) := by
    rw [nI_add]
    congr 1
    omega
  have e4' : nI (max (k - L) (L + 2)) + nI L = nI (max k (2 * L + 2)) := by
    rw [nI_add]
    congr 1
    omega
  have c1 : (0 : Int32) < nI (max k (2 * L + 2)) := by rw [← nI_0]; exact nI_lt (by omega) (by omega)
  have c2 : ¬ nI 2147483639 < nI (max k (2 * L + 2)) := nI_nlt (by omega) (by omega)
  rw [e1, e2]
  simp (disch := first | exact znw_u | exact znw_i) only [zc_6, zs_6_0, zs_6_1, zs_6_2, zs_6_3, zs_6_6, zs_6_7, zs_6_8, zs_6_9, zs_6_10, zs_6_13, zs_6_14, zs_6_16, zs_6_19, zs_6_20, zs_6_21, zs_6_22, e3, e4, e4', if_pos c1, if_neg c2, zgd_t]
theorem d_5 {h : zH} {r v k : Nat} {B o : List Int32} (hb : zBl h r v B o) (hk : k ≤ 1000) (hkL : B.length < k) : zcall zP sv (d + 2) 5 [.ref r, .int (nI k)] h = some (.inl (some (.int (nI (max k (2 * B.length + 2))))), h) := by
  obtain ⟨⟨u, e⟩, ev, _, _, _, hL, _⟩ := hb
  have e6 := d_6 (sv := sv) (d := d) (h := h) hL hk hkL
  have hl : (B.map Value.int).length = B.length := List.length_map ..
  have cm : ¬ nI (max k (2 * B.length + 2)) = nI 2147483647 := fun q => by
    have := (nI_eq (by omega) (by omega)).mp q
    omega
  simp (disch := first | exact znw_u | exact znw_i) only [zc_5, zs_5_0, zs_5_0n, zs_5_1, zs_5_4, zs_5_5, zs_5_6, zs_5_7, zs_5_7n, zs_5_8, zs_5_11, zs_5_12, zs_5_13, zs_5_14, zs_5_15, zs_5_16, zs_5_18, zs_5_19, zs_5_21, zs_5_22, zs_5_23, zs_5_23n, zs_5_24, zs_5_27, zs_5_28, zs_5_29, zs_5_32, zs_5_34, zs_5_36, zs_5_38, zs_5_51, zs_5_53, zs_5_53n, zs_5_54, zs_5_57, zs_5_58, e, zrc_2, zf_2_0, zp_2_0, zp_2_0n, zf_2_1, zp_2_10, zp_2_11, zf_2_2, zp_2_20, zp_2_21, zf_2_3, zp_2_3, ev, zaln_k (show 20 ≤ 24 by omega), hl, zsh_l, zsh_r, e6, if_neg cm, zbk_v, zts_s, List.cons_append, List.nil_append]
theorem zcopy_k {pc a b n L : Nat} {ls : List Slot} {st : List Value} {h : zH} {va vb : List Value} (ha : h.1 a = (24, va)) (hb : h.1 b = (24, vb)) (hab : a ≠ b) (hn : n ≤ va.length) (hm : n ≤ vb.length) (h3 : n < 2 ^ 31) (hst : st.length ≤ 4) (hty : va.all (zty 6) = true) : zcopy pc ls (.int (nI n) :: .int 0 :: .ref b :: .int 0 :: .ref a :: st) h = zgo pc ls st (zup h b (24, va.take n ++ vb.drop n)) := by
  have z0 : (0 : Int32).toNatClampNeg = 0 := rfl
  have zi : ¬ (0 : Int32) < 0 := by decide
  unfold zcopy
  simp only [ha, hb, z0, nI_clamp h3, Nat.zero_add, List.take_zero, List.drop_zero, List.nil_append]
  rw [if_pos ⟨trivial, trivial, hab, zi, zi, nI_pos h3, hn, hm, hst, hty⟩]
theorem d_7 {h : zH} {r v n : Nat} {B o : List Int32} (hb : zBl h r v B o) (hn : n ≤ 1000) (hnL : B.length < n) : ∃ h', zcall zP sv (d + 1) 7 [.ref v, .int (nI n)] h = some (.inl (some (.ref h.2.1)), h') ∧ h'.1 h.2.1 = (24, (B ++ List.replicate (n - B.length) 0).map Value.int) ∧ (∀ q, q < h.2.1 → h'.1 q = h.1 q) ∧ h'.2.1 = h.2.1 + 1 ∧ h'.2.2 = h.2.2 + n := by
  obtain ⟨⟨u, e⟩, ev, ⟨hr, hv, hvr⟩, _, _, hL, hty⟩ := hb
  have hl : (B.map Value.int).length = B.length := List.length_map ..
  have c1 : ¬ nI n = nI B.length := fun q => by
    have := (nI_eq (by omega) (by omega)).mp q
    omega
  obtain ⟨h1, hh1⟩ : ∃ h1, h1 = znew h (24, List.replicate n (.int 0)) n := ⟨_, rfl⟩
  have g1 : h1.1 h.2.1 = (24, List.replicate n (.int 0)) := by rw [hh1, zext_of, zext_0]
  have g2 : h1.1 v = (24, B.map Value.int) := by rw [hh1, zext_of, zext_lo hv, ev]
  have em : (if nI n < nI B.length then nI n else nI B.length) = nI B.length := if_neg (nI_nlt (by omega) (by omega))
  have hcp := zcopy_k (L := 0) (pc := 31) (ls := [.val (.ref v), .val (.int (nI n)), .val (.ref h.2.1)]) (st := []) (h := h1) (n := B.length) g2 g1 (by omega) (by rw [hl]; exact Nat.le_refl _) (by rw [List.length_replicate]; omega) (by omega) (Nat.zero_le _) (by
    rw [List.all_map, List.all_eq_true]
    exact hty)
  have ek : (B.map Value.int).take B.length ++ (List.replicate n (Value.int 0)).drop B.length = (B ++ List.replicate (n - B.length) 0).map Value.int := by
    rw [List.map_append, List.take_of_length_le (by rw [hl]; exact Nat.le_refl _), List.drop_replicate, List.map_replicate]
  rw [ek] at hcp
  refine ⟨zup h1 h.2.1 (24, (B ++ List.replicate (n - B.length) 0).map Value.int), ?_, zup_at, fun q hq => by rw [zup_ne (by omega), hh1, zext_of, zext_lo hq], by rw [hh1]; rfl, by rw [hh1]; rfl⟩
  simp (disch := first | exact znw_u | exact znw_i | exact znw_r) only [zc_7, zs_7_0, zs_7_1, zs_7_2, zs_7_3, zs_7_14, zs_7_15, zs_7_17, zs_7_18, zs_7_19, zs_7_20, zs_7_21, zs_7_22, zs_7_23, zs_7_24, zs_7_25, ev, zaln_k (show 20 ≤ 24 by omega), hl, if_neg c1, znwa_k (show n ≤ 65536 by omega), ← hh1, g2, em, zs_7_28, hcp, znx, zgo, zs_7_31, zs_7_32]
/-- room for k signs -/
theorem d_4 {h : zH} {r v k : Nat} {B o : List Int32} (hb : zBl h r v B o) (hk : k ≤ 450) : ∃ (h' : zH) (v' : Nat) (B' : List Int32), zcall zP sv (d + 3) 4 [.ref r, .int (nI k)] h = some (.inl none, h') ∧ zBl h' r v' B' o ∧ (v' = v ∨ h.2.1 ≤ v') ∧ zbo r v B B' h h' ∧ k ≤ B'.length := by
  have hb' := hb
  obtain ⟨⟨u, e⟩, ev, ⟨hr, hv, hvr⟩, h3, h4, hL, hty⟩ := hb
  have hl : (B.map Value.int).length = B.length := List.length_map ..
  by_cases c : B.length < k
  · have c1 : (0 < nI k - nI B.length) := by rw [nI_sp (by omega) (by omega)]; exact c
    have e5 : zcall zP sv (d + 2) 5 [.ref r, .int (nI k)] h = _ := d_5 hb' (show k ≤ 1000 by omega) c
    obtain ⟨h1, e7, g1, g2, g3, g4⟩ := d_7 (sv := sv) (d := d + 1) hb' (n := max k (2 * B.length + 2)) (by omega) (by omega)
    have er : h1.1 r = (2, [.ref v, .int 0, .int u, .int (nI o.length)]) := by rw [g2 r hr, e]
    have hl2 : (B ++ List.replicate (max k (2 * B.length + 2) - B.length) 0).length = max k (2 * B.length + 2) := by
      rw [List.length_append, List.length_replicate]
      omega
    have rc : ∀ X : zR, zrc (h.1 r) 2 X = X := fun X => zBl_rc hb' X
    refine ⟨zup h1 r (2, [.ref h.2.1, .int 0, .int u, .int (nI o.length)]), h.2.1, B ++ List.replicate (max k (2 * B.length + 2) - B.length) 0, ?_, ⟨⟨u, zup_at⟩, by rw [zup_ne (by omega), g1], ⟨by show r < h1.2.1; omega, by show h.2.1 < h1.2.1; omega, by omega⟩, by rw [hl2]; omega, by rw [List.take_append_of_le_length h3]; exact h4, by rw [hl2]; omega, ?_⟩, Or.inr (Nat.le_refl _), ⟨fun q q1 q2 q3 => by rw [zup_ne q2, g2 q q1], by show h.2.1 ≤ h1.2.1; omega, by rw [hl2]; show h1.2.1 + _ ≤ _; omega, by rw [hl2]; show h1.2.2 + _ ≤ _; omega, by rw [hl2]; omega⟩, by rw [hl2]; omega⟩
    · simp (disch := first | exact znw_u | exact znw_i) only [zc_4, zs_4_0, zs_4_0n, zs_4_1, zs_4_4, zs_4_5, zs_4_5n, zs_4_6, zs_4_9, zs_4_10, zs_4_11, zs_4_12, zs_4_13, zs_4_14, zs_4_17, zs_4_17n, zs_4_18, zs_4_18n, zs_4_19, zs_4_22, zs_4_22n, zs_4_23, zs_4_24, zs_4_27, zs_4_27n, zs_4_28, zs_4_31, zs_4_32, zs_4_35, zs_4_35n, zs_4_38, e, er, zrc_2, zf_2_0, zp_2_0, zp_2_0n, zf_2_1, zp_2_10, zp_2_11, zf_2_2, zp_2_20, zp_2_21, zf_2_3, zp_2_3, ev, zaln_k (show 20 ≤ 24 by omega), hl, zsh_l, zsh_r, if_pos c1, rc, e5, e7, zbk_v, zts_s, List.cons_append, List.nil_append]
    · intro x hx
      rw [List.mem_append] at hx
      rcases hx with hx | hx
      · exact hty x hx
      · rw [List.eq_of_mem_replicate hx]
        decide
  · have c1 : ¬ (0 < nI k - nI B.length) := by rw [nI_sp (by omega) (by omega)]; exact c
    refine ⟨h, v, B, ?_, hb', Or.inl rfl, zbo_rfl, by omega⟩
    simp (disch := first | exact znw_u | exact znw_i) only [zc_4, zs_4_0, zs_4_0n, zs_4_1, zs_4_4, zs_4_5, zs_4_5n, zs_4_6, zs_4_9, zs_4_10, zs_4_11, zs_4_12, zs_4_13, zs_4_14, zs_4_17, zs_4_17n, zs_4_18, zs_4_18n, zs_4_19, zs_4_22, zs_4_22n, zs_4_23, zs_4_24, zs_4_27, zs_4_27n, zs_4_28, zs_4_31, zs_4_32, zs_4_35, zs_4_35n, zs_4_38, e, zrc_2, zf_2_0, zp_2_0, zp_2_0n, zf_2_1, zp_2_10, zp_2_11, zf_2_2, zp_2_20, zp_2_21, zf_2_3, zp_2_3, ev, zaln_k (show 20 ≤ 24 by omega), hl, zsh_l, zsh_r, if_neg c1]
/-- emptied -/
theorem d_2 {h : zH} {r v : Nat} {B o : List Int32} (hb : zBl h r v B o) : ∃ h', zcall zP sv (d + 5) 2 [.ref r, .int 0] h = some (.inl none, h') ∧ zBl h' r v B [] ∧ zbo r v B B h h' := by
  have hb' := hb
  obtain ⟨⟨u, e⟩, ev, ⟨hr, hv, hvr⟩, h3, h4, hL, hty⟩ := hb
  have rc : ∀ X : zR, zrc (h.1 r) 2 X = X := fun X => zBl_rc hb' X
  have e4 : zcall zP sv (d + 3) 4 [.ref r, .int 0] h = some (.inl none, h) := by
    have hl : (B.map Value.int).length = B.length := List.length_map ..
    have c1 : ¬ (0 < nI 0 - nI B.length) := by rw [nI_sp (by omega) (by omega)]; omega
    rw [nI_0] at c1
    simp (disch := first | exact znw_u | exact znw_i) only [zc_4, zs_4_0, zs_4_0n, zs_4_1, zs_4_4, zs_4_5, zs_4_5n, zs_4_6, zs_4_9, zs_4_10, zs_4_11, zs_4_12, zs_4_13, zs_4_14, zs_4_17, zs_4_17n, zs_4_18, zs_4_18n, zs_4_19, zs_4_22, zs_4_22n, zs_4_23, zs_4_24, zs_4_27, zs_4_27n, zs_4_28, zs_4_31, zs_4_32, zs_4_35, zs_4_35n, zs_4_38, e, zrc_2, zf_2_0, zp_2_0, zp_2_0n, zf_2_1, zp_2_10, zp_2_11, zf_2_2, zp_2_20, zp_2_21, zf_2_3, zp_2_3, ev, zaln_k (show 20 ≤ 24 by omega), hl, zsh_l, zsh_r, if_neg c1]
  have c0 : ¬ nI o.length < 0 := nI_pos (by omega)
  have z0 : ¬ (0 : Int32) < 0 := by decide
  by_cases c : 0 < o.length
  · have c1 : 0 < nI o.length := by rw [← nI_0]; exact nI_lt c (by omega)
    refine ⟨zup (zup h r (2, [.ref v, .int 0, .int (nI 1), .int (nI o.length)])) r (2, [.ref v, .int 0, .int (nI 1), .int 0]), ?_, ⟨⟨nI 1, by rw [zup_at]; rfl⟩, by rw [zup_ne hvr, zup_ne hvr, ev], ⟨hr, hv, hvr⟩, Nat.zero_le _, rfl, hL, hty⟩, ⟨fun q q1 q2 q3 => by rw [zup_ne q2, zup_ne q2], Nat.le_refl _, Nat.le_refl _, Nat.le_refl _, Nat.le_refl _⟩⟩
    have e3 : zcall zP sv (d + 4) 3 [.ref r, .int 0] h = some (.inl none, zup (zup h r (2, [.ref v, .int 0, .int (nI 1), .int (nI o.length)])) r (2, [.ref v, .int 0, .int (nI 1), .int 0])) := by
      simp (disch := first | exact znw_u | exact znw_i) only [zc_3, zs_3_0, zs_3_1, zs_3_13, zs_3_13n, zs_3_14, zs_3_15, zs_3_18, zs_3_18n, zs_3_19, zs_3_22, zs_3_23, zs_3_26, zs_3_26n, zs_3_27, zs_3_30, zs_3_33, zs_3_33n, zs_3_34, zs_3_37, zs_3_37n, zs_3_38, zs_3_41, zs_3_48, zs_3_48n, zs_3_49, zs_3_52, zs_3_52n, zs_3_53, zs_3_56, zs_3_63, zs_3_63n, zs_3_64, zs_3_67, zs_3_68, zs_3_71, zs_3_71n, zs_3_72, zs_3_73, zs_3_76, zs_3_76n, zs_3_77, zs_3_78, zs_3_81, if_neg z0, rc, e4, e, zup_at, zrc_2, zf_2_0, zp_2_0, zp_2_0n, zf_2_1, zp_2_10, zp_2_11, zf_2_2, zp_2_20, zp_2_21, zf_2_3, zp_2_3, if_neg c0, if_pos c1, zbk_v, zts_n, List.cons_append, List.nil_append]
    simp (disch := first | exact znw_u | exact znw_i) only [zc_2, zs_2_0, zs_2_0n, zs_2_1, zs_2_2, zs_2_5, rc, e3, zbk_v, zts_n, List.cons_append, List.nil_append]
  · have c' : o.length = 0 := by omega
    rw [c', nI_0] at e c0
    refine ⟨zup h r (2, [.ref v, .int 0, .int u, .int 0]), ?_, ⟨⟨u, by rw [zup_at]; rfl⟩, by rw [zup_ne hvr, ev], ⟨hr, hv, hvr⟩, Nat.zero_le _, rfl, hL, hty⟩, ⟨fun q q1 q2 q3 => zup_ne q2, Nat.le_refl _, Nat.le_refl _, Nat.le_refl _, Nat.le_refl _⟩⟩
    have e3 : zcall zP sv (d + 4) 3 [.ref r, .int 0] h = some (.inl none, zup h r (2, [.ref v, .int 0, .int u, .int 0])) := by
      simp (disch := first | exact znw_u | exact znw_i) only [zc_3, zs_3_0, zs_3_1, zs_3_13, zs_3_13n, zs_3_14, zs_3_15, zs_3_18, zs_3_18n, zs_3_19, zs_3_22, zs_3_23, zs_3_26, zs_3_26n, zs_3_27, zs_3_30, zs_3_33, zs_3_33n, zs_3_34, zs_3_37, zs_3_37n, zs_3_38, zs_3_41, zs_3_48, zs_3_48n, zs_3_49, zs_3_52, zs_3_52n, zs_3_53, zs_3_56, zs_3_63, zs_3_63n, zs_3_64, zs_3_67, zs_3_68, zs_3_71, zs_3_71n, zs_3_72, zs_3_73, zs_3_76, zs_3_76n, zs_3_77, zs_3_78, zs_3_81, if_neg z0, rc, e4, e, zrc_2, zf_2_0, zp_2_0, zp_2_0n, zf_2_1, zp_2_10, zp_2_11, zf_2_2, zp_2_20, zp_2_21, zf_2_3, zp_2_3, zbk_v, zts_n, List.cons_append, List.nil_append]
    simp (disch := first | exact znw_u | exact znw_i) only [zc_2, zs_2_0, zs_2_0n, zs_2_1, zs_2_2, zs_2_5, rc, e3, zbk_v, zts_n, List.cons_append, List.nil_append]
theorem d_13 {h : zH} {r v : Nat} {B o : List Int32} (hb : zBl h r v B o) : zcall zP sv (d + 2) 13 [.ref r] h = some (.inl (some (.int (nI o.length))), h) := by
  have rc : ∀ X : zR, zrc (h.1 r) 2 X = X := fun X => zBl_rc hb X
  obtain ⟨⟨u, e⟩, _⟩ := hb
  have e14 : zcall zP sv (d + 1) 14 [.ref r] h = some (.inl (some (.int (nI o.length))), h) := by
    simp only [zc_14, zs_14_0, zs_14_0n, zs_14_1, zs_14_4, e, zrc_2, zf_2_0, zp_2_0, zp_2_0n, zf_2_1, zp_2_10, zp_2_11, zf_2_2, zp_2_20, zp_2_21, zf_2_3, zp_2_3]
  simp only [zc_13, zs_13_0, zs_13_0n, zs_13_1, zs_13_4, rc, e14, zbk_v, zts_s, List.cons_append, List.nil_append]
end ZSA

section ZSB
variable {sv : Nat → Value} {d : Nat}
def ynb (y : Int32) : Int32 := y.toInt8.toInt32
theorem zsB {A : List Int32} {i : Nat} {y : Int32} {Kc : zC → zR} (h : i < A.length) (h2 : A.length < 2 ^ 31) : zaset (24, A.map Value.int) 24 (nI i) (.int y) Kc = Kc (24, (A.set i (ynb y)).map Value.int) := by
  unfold zaset zix
  rw [nI_clamp (by omega), if_pos ⟨rfl, by rw [decide_eq_true (nI_pos (by omega)), decide_eq_true (by rw [List.length_map]; omega)]; rfl⟩, List.map_set]
  rfl
theorem ynb_ty (y : Int32) : zty 6 (.int (ynb y)) = true := by
  have h1 := Int8.toInt_lt y.toInt8
  have h2 := Int8.le_toInt y.toInt8
  have e : (ynb y).toInt = y.toInt8.toInt := Int8.toInt_toInt32 _
  have a : (-128 : Int32).toInt = -128 := by decide
  have b : (127 : Int32).toInt = 127 := by decide
  show (decide (-128 ≤ ynb y) && decide (ynb y ≤ 127)) = true
  rw [Bool.and_eq_true]
  exact ⟨decide_eq_true (Int32.le_iff_toInt_le.mpr (by rw [e, a]; omega)), decide_eq_true (Int32.le_iff_toInt_le.mpr (by rw [e, b]; omega))⟩
theorem yasc : ∀ k, k < 128 → ynb (nI k) = nI k ∧ ynb (nI k).toInt8.toInt32 = nI k ∧ ¬ nI 255 < nI k := by decide +kernel
theorem yset_ty {B : List Int32} {i : Nat} {y : Int32} (hB : ∀ x, x ∈ B → zty 6 (.int x) = true) : ∀ x, x ∈ B.set i (ynb y) → zty 6 (.int x) = true := fun x hx => by
  rcases List.mem_or_eq_of_mem_set hx with h | h
  · exact hB x h
  · rw [h]; exact ynb_ty y
/-- a sign appended -/
theorem d_16 {h : zH} {r v k : Nat} {B o : List Int32} (hs : sv 0 = .int (nI 1)) (hb : zBl h r v B o) (ho : o.length + 1 ≤ 450) (hk : k < 128) : ∃ (h' : zH) (v' : Nat) (B' : List Int32), zcall zP sv (d + 4) 16 [.ref r, .int (nI k)] h = some (.inl (some (.ref r)), h') ∧ zBl h' r v' B' (o ++ [nI k]) ∧ (v' = v ∨ h.2.1 ≤ v') ∧ zbo r v B B' h h' := by
  obtain ⟨h1, v1, B1, e4, b1, w1, f1, l1⟩ := d_4 (sv := sv) (d := d) (k := o.length + 1) hb ho
  have rc : ∀ X : zR, zrc (h.1 r) 2 X = X := fun X => zBl_rc hb X
  have rc1 : ∀ X : zR, zrc (h1.1 r) 2 X = X := fun X => zBl_rc b1 X
  have e8 : zcall zP sv (d + 3) 8 [.ref r] h1 = _ := d_8 (d := d + 2) hs b1
  obtain ⟨⟨u0, e0⟩, _⟩ := hb
  obtain ⟨⟨u, e⟩, ev, ⟨hr, hv, hvr⟩, h3, h4, hL, hty⟩ := b1
  obtain ⟨a1, a2, a3⟩ := yasc k hk
  have e17 : zcall zP sv (d + 3) 17 [.int (nI k)] h1 = some (.inl (some (.int (nI 1))), h1) := by
    simp only [zc_17, zs_17_0, zs_17_1, zs_17_4, zs_17_7, zs_17_8, zs_17_11, zs_17_12, if_neg a3, zgd_t, zty_51]
  have eb := @zsB B1 o.length (nI k).toInt8.toInt32
  have hl : (o ++ [nI k]).length = o.length + 1 := List.length_append
  refine ⟨zup (zup h1 r (2, [.ref v1, .int 0, .int u, .int (nI (o.length + 1))])) v1 (24, (B1.set o.length (nI k)).map Value.int), v1, B1.set o.length (nI k), ?_, ⟨⟨u, by rw [zup_ne (Ne.symm hvr), zup_at, hl]⟩, zup_at, ⟨hr, hv, hvr⟩, by rw [hl, List.length_set]; exact l1, by rw [hl]; exact ytk_set h4 (by omega), by rw [List.length_set]; exact hL, by rw [← a1]; exact yset_ty hty⟩, w1, ⟨fun q q1 q2 q3 => ?_, f1.2.1, by rw [List.length_set]; exact f1.2.2.1, by rw [List.length_set]; exact f1.2.2.2.1, by rw [List.length_set]; exact f1.2.2.2.2⟩⟩
  · simp (disch := first | exact znw_u | exact znw_i | omega) only [zc_16, zs_16_0, zs_16_0n, zs_16_1, zs_16_1n, zs_16_2, zs_16_5, zs_16_6, zs_16_7, zs_16_10, zs_16_10n, zs_16_11, zs_16_14, zs_16_17, zs_16_18, zs_16_21, zs_16_24, zs_16_24n, zs_16_25, zs_16_28, zs_16_28n, zs_16_29, zs_16_30, zs_16_33, zs_16_34, zs_16_35, zs_16_36, zs_16_39, zs_16_40, zs_16_41, zs_16_42, zs_16_45, zs_16_45n, zs_16_46, zs_16_49, zs_16_52, zs_16_52n, zs_16_56, zs_16_56n, zs_16_57, zs_16_60, zs_16_60n, zs_16_61, zs_16_62, zs_16_65, zs_16_66, zs_16_67, zs_16_68, zs_16_71, zs_16_75, zs_16_75n, zs_16_76, zs_16_76n, e0, e, zrc_2, zf_2_0, zp_2_0, zp_2_0n, zf_2_1, zp_2_10, zp_2_11, zf_2_2, zp_2_20, zp_2_21, zf_2_3, zp_2_3, nI_1', rc, rc1, e4, e8, e17, nI_1e0, zup_ne, zup_at, ev, eb, a2, hvr, Ne.symm hvr, ne_eq, not_false_eq_true, zbk_v, zts_s, zts_n, ↓reduceIte, List.cons_append, List.nil_append]
  · rw [zup_ne (by omega), zup_ne q2, f1.1 q q1 q2 q3]
theorem d_15 {h : zH} {r v k : Nat} {B o : List Int32} (hs : sv 0 = .int (nI 1)) (hb : zBl h r v B o) (ho : o.length + 1 ≤ 450) (hk : k < 128) : zAd r v B o h (zcall zP sv (d + 5) 15 [.ref r, .int (nI k)] h) (some (.ref r)) 1 1 := by
  obtain ⟨h1, v1, B1, e, b1, w1, f1⟩ := d_16 (sv := sv) (d := d) hs hb ho hk
  have rc : ∀ X : zR, zrc (h.1 r) 2 X = X := fun X => zBl_rc hb X
  refine ⟨h1, v1, B1, [nI k], ?_, b1, w1, f1, Nat.le_refl 1, Nat.le_refl 1⟩
  simp (disch := first | exact znw_u | exact znw_i) only [zc_15, zs_15_0, zs_15_0n, zs_15_1, zs_15_2, zs_15_5, zs_15_5n, zs_15_6, zs_15_6n, zs_15_7, zs_15_7n, rc, e, zbk_v, zts_s, List.cons_append, List.nil_append]
/-- how many signs a number takes -/
theorem nP_lt {n i : Nat} (hn : n ≤ 2 ^ 31) (hi : i ≤ 9) : (-(nI (10 ^ i)) < -(nI n)) = (n < 10 ^ i) := by
  have p : 10 ^ i ≤ 10 ^ 9 := Nat.pow_le_pow_right (by decide) hi
  have e1 : (-(nI (10 ^ i))).toInt = -((10 ^ i : Nat) : Int) := nI_neg (by omega)
  have e2 : (-(nI n)).toInt = -(n : Int) := by
    rcases Nat.lt_or_ge n (2 ^ 31) with h | h
    · exact nI_neg h
    · have : n = 2 ^ 31 := by omega
      subst this
      decide
  apply propext
  constructor
  · intro q
    have := Int32.lt_iff_toInt_lt.mp q
    omega
  · intro q
    exact Int32.lt_iff_toInt_lt.mpr (by omega)
theorem d_11l {n s : Nat} {h : zH} (hn : n ≤ 2 ^ 31) (hs : s ≤ 1) : ∀ f i, f + i = 10 → 1 ≤ i → zrun zP sv (zcall zP sv d) 11 16 [.val (.int (-(nI n))), .val (.int (nI s)), .val (.int (-(nI (10 ^ i)))), .val (.int (nI i))] [] h = some (.inl (some (.int (nI (i - 1 + ydgn f (n / 10 ^ (i - 1)) + s)))), h) := by
  intro f
  induction f with
  | zero =>
    intro i hi h1
    obtain rfl : i = 10 := by omega
    have c1 : ¬ nI 10 < nI 10 := by decide
    have e : nI 10 + nI s = nI (10 - 1 + ydgn 0 (n / 10 ^ (10 - 1)) + s) := by
      rw [nI_add]
      rfl
    rw [← e]
    simp only [zs_11_16, zs_11_17, zs_11_19, zs_11_42, zs_11_44, zs_11_45, zs_11_46, if_neg c1]
  | succ f ih =>
    intro i hi h1
    have c1 : nI i < nI 10 := nI_lt (by omega) (by decide)
    have c0 := nP_lt (n := n) hn (show i ≤ 9 by omega)
    have hp : 10 ^ i = 10 ^ (i - 1) * 10 := by
      rw [← Nat.pow_succ]
      congr 1
      omega
    have hpos : 0 < 10 ^ (i - 1) := Nat.pow_pos (by decide)
    by_cases c : n < 10 ^ i
    · have c2 : (-(nI (10 ^ i)) < -(nI n)) := by rw [c0]; exact c
      have hq : n / 10 ^ (i - 1) < 10 := by
        rw [Nat.div_lt_iff_lt_mul hpos]
        omega
      have ey : ydgn (f + 1) (n / 10 ^ (i - 1)) = 1 := by
        unfold ydgn
        rw [if_neg (by omega)]
      have e : nI i + nI s = nI (i - 1 + ydgn (f + 1) (n / 10 ^ (i - 1)) + s) := by
        rw [nI_add, ey]
        congr 1
        omega
      rw [← e]
      simp only [zs_11_16, zs_11_17, zs_11_19, zs_11_22, zs_11_23, zs_11_24, zs_11_27, zs_11_28, zs_11_29, zs_11_30, if_pos c1, if_pos c2]
    · have c2 : ¬ (-(nI (10 ^ i)) < -(nI n)) := by rw [c0]; exact c
      have hq : 10 ≤ n / 10 ^ (i - 1) := by
        rw [Nat.le_div_iff_mul_le hpos]
        omega
      have ey : ydgn (f + 1) (n / 10 ^ (i - 1)) = ydgn f (n / 10 ^ i) + 1 := by
        conv => lhs; unfold ydgn
        rw [if_pos (by omega), Nat.div_div_eq_div_mul, ← hp]
      have i2 := ih (i + 1) (by omega) (by omega)
      rw [show i + 1 - 1 = i by omega] at i2
      rw [ey, show i - 1 + (ydgn f (n / 10 ^ i) + 1) + s = i + ydgn f (n / 10 ^ i) + s by omega, ← i2]
      have em : nI 10 * -(nI (10 ^ i)) = -(nI (10 ^ (i + 1))) := by
        rw [Int32.mul_neg, nI_mulx, Nat.mul_comm, ← Nat.pow_succ]
      have em' : -(nI (10 ^ i)) * nI 10 = -(nI (10 ^ (i + 1))) := by rw [Int32.mul_comm, em]
      have eb : zrun zP sv (zcall zP sv d) 11 36 [.val (.int (-(nI n))), .val (.int (nI s)), .val (.int (-(nI (10 ^ (i + 1))))), .val (.int (nI i))] [] h = zrun zP sv (zcall zP sv d) 11 16 [.val (.int (-(nI n))), .val (.int (nI s)), .val (.int (-(nI (10 ^ (i + 1))))), .val (.int (nI (i + 1)))] [] h := by rw [zs_11_36, zs_11_39, nI_1']
      rw [← eb]
      simp (disch := first | exact znw_u | exact znw_i) only [zs_11_16, zs_11_17, zs_11_19, zs_11_22, zs_11_23, zs_11_24, zs_11_31, zs_11_33, zs_11_34, zs_11_35, if_pos c1, if_neg c2, em, em']
/-- a number's sign and size -/
theorem yabs (x : Int32) : x.toInt.natAbs ≤ 2 ^ 31 ∧ (x < 0 → x = -(nI x.toInt.natAbs)) ∧ (¬ x < 0 → -x = -(nI x.toInt.natAbs)) := by
  have h2 := Int32.toInt_lt x
  have h3 := Int32.le_toInt x
  have z0 : (0 : Int32).toInt = 0 := rfl
  have hle : x.toInt.natAbs ≤ 2 ^ 31 := by omega
  have e2 : (-(nI x.toInt.natAbs)).toInt = -(x.toInt.natAbs : Int) := by
    rcases Nat.lt_or_ge x.toInt.natAbs (2 ^ 31) with h | h
    · exact nI_neg h
    · have : x.toInt.natAbs = 2 ^ 31 := by omega
      rw [this]
      decide
  refine ⟨hle, fun hx => ?_, fun hx => ?_⟩
  · have := Int32.lt_iff_toInt_lt.mp hx
    apply Int32.toInt_inj.mp
    rw [e2]
    omega
  · have : ¬ x.toInt < (0 : Int32).toInt := fun q => hx (Int32.lt_iff_toInt_lt.mpr q)
    apply Int32.toInt_inj.mp
    rw [e2, Int32.toInt_neg, Int.bmod_eq_of_le (by omega) (by omega)]
    omega
theorem d_11 {x : Int32} {h : zH} : zcall zP sv (d + 1) 11 [.int x] h = some (.inl (some (.int (nI (yilen x)))), h) := by
  obtain ⟨hle, hn, hp⟩ := yabs x
  have m10 : (-10 : Int32) = -(nI (10 ^ 1)) := by decide
  by_cases c : x < 0
  · have e := d_11l (sv := sv) (d := d) (n := x.toInt.natAbs) (s := 1) (h := h) hle (Nat.le_refl 1) 9 1 rfl (Nat.le_refl 1)
    have ey : yilen x = 1 - 1 + ydgn 9 (x.toInt.natAbs / 10 ^ (1 - 1)) + 1 := by
      unfold yilen
      rw [if_pos c]
      simp only [Nat.sub_self, Nat.pow_zero, Nat.div_one]
      omega
    rw [ey, ← e]
    conv => lhs; rw [hn c]
    rw [hn c] at c
    simp (disch := first | exact znw_u | exact znw_i) only [zc_11, zs_11_0, zs_11_1, zs_11_2, zs_11_3, zs_11_11, zs_11_13, zs_11_14, zs_11_15, if_pos c, m10]
  · have e := d_11l (sv := sv) (d := d) (n := x.toInt.natAbs) (s := 0) (h := h) hle (Nat.zero_le 1) 9 1 rfl (Nat.le_refl 1)
    have ey : yilen x = 1 - 1 + ydgn 9 (x.toInt.natAbs / 10 ^ (1 - 1)) + 0 := by
      unfold yilen
      rw [if_neg c]
      simp only [Nat.sub_self, Nat.pow_zero, Nat.div_one]
      omega
    rw [ey, ← e, nI_0, ← hp c]
    simp (disch := first | exact znw_u | exact znw_i) only [zc_11, zs_11_0, zs_11_1, zs_11_2, zs_11_3, zs_11_6, zs_11_7, zs_11_8, zs_11_9, zs_11_10, zs_11_11, zs_11_13, zs_11_14, zs_11_15, if_neg c, m10]
end ZSB

section ZSC
variable {sv : Nat → Value} {d : Nat}
/-- the library's digits -/
def zDg (sv : Nat → Value) (h : zH) : Prop := ∃ (a1 a2 : Nat) (O T : List Int32), sv 1 = .ref a1 ∧ sv 2 = .ref a2 ∧ h.1 a1 = (27, O.map Value.int) ∧ h.1 a2 = (27, T.map Value.int) ∧ O.length = 100 ∧ T.length = 100 ∧ a1 < h.2.1 ∧ a2 < h.2.1
theorem zael_r {F : List Int32} {kd i : Nat} {K : Value → zR} (hi : i < F.length) (h2 : i < 2 ^ 31) : zael (kd, F.map Value.int) kd (nI i) K = K (.int F[i]) := zael_k (by rw [List.getElem?_map, List.getElem?_eq_getElem hi]; rfl) h2
theorem nN_div {n : Nat} (hn : n ≤ 2 ^ 31) : -(nI n) / nI 100 = -(nI (n / 100)) := by
  have e2 : (-(nI n)).toInt = -(n : Int) := by
    rcases Nat.lt_or_ge n (2 ^ 31) with h | h
    · exact nI_neg h
    · have : n = 2 ^ 31 := by omega
      subst this
      decide
  apply Int32.toInt_inj.mp
  rw [Int32.toInt_div, e2, nI_neg (show n / 100 < 2 ^ 31 by omega), nI_toInt (show 100 < 2 ^ 31 by decide)]
  rw [Int.neg_tdiv]
  have : (n : Int).tdiv (100 : Nat) = ((n / 100 : Nat) : Int) := by
    rw [Int.tdiv_eq_ediv_of_nonneg (by omega)]
    rfl
  rw [this]
  exact Int.bmod_eq_of_le (by omega) (by omega)
theorem nN_mod {n : Nat} (hn : n ≤ 2 ^ 31) : -(nI (n / 100)) * nI 100 - -(nI n) = nI (n % 100) := by
  rw [Int32.neg_mul, nI_mulx, Int32.sub_neg, Int32.add_comm, ← Int32.sub_eq_add_neg]
  have e : nI n = nI (n / 100 * 100) + nI (n % 100) := by
    rw [nI_add]
    congr 1
    omega
  rw [e, Int32.add_comm, Int32.add_sub_cancel]
theorem nN_100 {n : Nat} (hn : n ≤ 2 ^ 31) : ((-100 : Int32) < -(nI n)) = (n < 100) := by
  have m : (-100 : Int32) = -(nI (10 ^ 2)) := by decide
  rw [m]
  exact nP_lt hn (by decide)
theorem nN_9 {n : Nat} (hn : n < 100) : (-(nI n) < (-9 : Int32)) = (9 < n) := by
  have m : (-9 : Int32).toInt = -9 := by decide
  have e := nI_neg (n := n) (by omega)
  apply propext
  constructor
  · intro q
    have := Int32.lt_iff_toInt_lt.mp q
    omega
  · intro q
    exact Int32.lt_iff_toInt_lt.mpr (by omega)
/-- what a run that writes numbers does -/
def zGch (v base : Nat) (B : List Int32) (h : zH) (r : zR) : Prop := ∃ (h' : zH) (B' : List Int32), r = some (.inl (some (.int (nI base))), h') ∧ h'.1 v = (24, B'.map Value.int) ∧ B'.length = B.length ∧ (∀ i, i < base → B'[i]? = B[i]?) ∧ (∀ x, x ∈ B' → zty 6 (.int x) = true) ∧ (∀ q, q ≠ v → h'.1 q = h.1 q) ∧ h'.2 = h.2
theorem nI_d {n : Nat} : nI (n + 1) + (-1) = nI n := by rw [nI_mm, nI_m]
theorem d_12e {v base s n : Nat} {B : List Int32} {l1 l3 l4 : Slot} {h : zH} (hD : zDg sv h) (hv : h.1 v = (24, B.map Value.int)) (hty : ∀ x, x ∈ B → zty 6 (.int x) = true) (hs : s ≤ 1) (hn : n < 100) (hl : base + s + (if 9 < n then 2 else 1) ≤ B.length) (hB : B.length ≤ 1000) : zGch v base B h (zrun zP sv (zcall zP sv d) 12 72 [.val (.int (-(nI n))), l1, .val (.ref v), l3, l4, .val (.int (nI (base + s + (if 9 < n then 2 else 1)))), .val (.int (nI s))] [] h) := by
  obtain ⟨a1, a2, O, T, s1, s2, g1, g2, o1, t1, _, _⟩ := hD
  have n1 : v ≠ a1 := fun q => by
    rw [q, g1] at hv
    exact absurd (Prod.mk.inj hv).1 (by decide)
  have n2 : v ≠ a2 := fun q => by
    rw [q, g2] at hv
    exact absurd (Prod.mk.inj hv).1 (by decide)
  have rO : ∀ K, zael (27, O.map Value.int) 27 (nI n) K = K (.int (O[n]'(by omega))) := fun K => zael_r (by omega) (by omega)
  have rT : ∀ K, zael (27, T.map Value.int) 27 (nI n) K = K (.int (T[n]'(by omega))) := fun K => zael_r (by omega) (by omega)
  have nn : -(-(nI n)) = nI n := Int32.neg_neg
  have c9 := nN_9 hn
  -- the sign's end
  have tail : ∀ (h1 : zH) (B1 : List Int32), h1.1 v = (24, B1.map Value.int) → B1.length = B.length → (∀ i, i < base + s → B1[i]? = B[i]?) → (∀ x, x ∈ B1 → zty 6 (.int x) = true) → (∀ q, q ≠ v → h1.1 q = h.1 q) → h1.2 = h.2 → zGch v base B h (zrun zP sv (zcall zP sv d) 12 104 [.val (.int (-(nI n))), l1, .val (.ref v), l3, l4, .val (.int (nI (base + s))), .val (.int (nI s))] [] h1) := by
    intro h1 B1 k1 k2 k3 k4 k5 k6
    rcases (show s = 0 ∨ s = 1 by omega) with rfl | rfl
    · refine ⟨h1, B1, ?_, k1, k2, k3, k4, k5, k6⟩
      rw [nI_0, Nat.add_zero]
      simp only [zs_12_104, zs_12_106, zs_12_118, zs_12_120, ↓reduceIte]
    · have zb := @zsB B1 base (nI 45)
      refine ⟨zup h1 v (24, (B1.set base (ynb (nI 45))).map Value.int), B1.set base (ynb (nI 45)), ?_, zup_at, by rw [List.length_set, k2], fun i hi => by rw [List.getElem?_set_ne (by omega)]; exact k3 i (by omega), yset_ty k4, fun q hq => by rw [zup_ne hq, k5 q hq], by rw [← k6]; rfl⟩
      simp (disch := first | exact znw_u | exact znw_i | omega) only [zs_12_104, zs_12_106, zs_12_109, zs_12_110, zs_12_113, zs_12_115, zs_12_117, zs_12_118, zs_12_120, nI_1e0, nI_d, k1, zb, ↓reduceIte]
  by_cases c : 9 < n
  · have c' : -(nI n) < (-9 : Int32) := by rw [c9]; exact c
    rw [if_pos c] at hl ⊢
    have zb1 := @zsB B (base + s + 1) (O[n]'(by omega))
    have zb2 := @zsB (B.set (base + s + 1) (ynb (O[n]'(by omega)))) (base + s) (T[n]'(by omega))
    have hl2 : (B.set (base + s + 1) (ynb (O[n]'(by omega)))).length = B.length := List.length_set
    obtain ⟨h1, hh1⟩ : ∃ h1, h1 = zup h v (24, (B.set (base + s + 1) (ynb (O[n]'(by omega)))).map Value.int) := ⟨_, rfl⟩
    have k1 : h1.1 v = (24, (B.set (base + s + 1) (ynb (O[n]'(by omega)))).map Value.int) := by rw [hh1, zup_at]
    have ka : h1.1 a2 = (27, T.map Value.int) := by rw [hh1, zup_ne (Ne.symm n2), g2]
    obtain ⟨h', B', e, w⟩ := tail (zup h1 v (24, ((B.set (base + s + 1) (ynb (O[n]'(by omega)))).set (base + s) (ynb (T[n]'(by omega)))).map Value.int)) _ zup_at (by rw [List.length_set, hl2]) (fun i hi => by rw [List.getElem?_set_ne (by omega), List.getElem?_set_ne (by omega)]) (yset_ty (yset_ty hty)) (fun q hq => by rw [zup_ne hq, hh1, zup_ne hq]) (by rw [hh1]; rfl)
    refine ⟨h', B', ?_, w⟩
    rw [← e]
    rw [show base + s + 2 = base + s + 1 + 1 by omega]
    simp (disch := first | exact znw_u | exact znw_i | omega) only [zs_12_72, zs_12_73, zs_12_76, zs_12_78, zs_12_81, zs_12_82, zs_12_83, zs_12_84, zs_12_85, zs_12_86, zs_12_88, zs_12_91, zs_12_92, zs_12_95, zs_12_97, zs_12_100, zs_12_101, zs_12_102, zs_12_103, nI_d, s1, s2, g1, hv, nn, rO, rT, zb1, ← hh1, k1, ka, zb2, hl2, if_pos c']
  · have c' : ¬ -(nI n) < (-9 : Int32) := by rw [c9]; exact c
    rw [if_neg c] at hl ⊢
    have zb1 := @zsB B (base + s) (O[n]'(by omega))
    obtain ⟨h', B', e, w⟩ := tail (zup h v (24, (B.set (base + s) (ynb (O[n]'(by omega)))).map Value.int)) _ zup_at (by rw [List.length_set]) (fun i hi => by rw [List.getElem?_set_ne (by omega)]) (yset_ty hty) (fun q hq => by rw [zup_ne hq]) rfl
    refine ⟨h', B', ?_, w⟩
    rw [← e]
    simp (disch := first | exact znw_u | exact znw_i | omega) only [zs_12_72, zs_12_73, zs_12_76, zs_12_78, zs_12_81, zs_12_82, zs_12_83, zs_12_84, zs_12_85, zs_12_86, zs_12_88, nI_d, s1, g1, hv, nn, rO, zb1, if_neg c']
theorem ydgn_100 {f n : Nat} (hn : n < 100) (hf : n < 10 ^ (f + 1)) : ydgn f n = if 9 < n then 2 else 1 := by
  cases f with
  | zero =>
    have : n < 10 := hf
    rw [if_neg (by omega)]
    rfl
  | succ f =>
    unfold ydgn
    by_cases c : 9 < n
    · rw [if_pos c, if_pos c]
      cases f with
      | zero => rfl
      | succ f =>
        unfold ydgn
        rw [if_neg (by omega)]
    · rw [if_neg c, if_neg c]
theorem ydgn_2 {f n : Nat} (hn : 100 ≤ n) (hf : n < 10 ^ (f + 1)) : ∃ g, f = g + 2 ∧ ydgn f n = ydgn g (n / 100) + 2 ∧ n / 100 < 10 ^ (g + 1) := by
  match f, hf with
  | 0, hf =>
    have : n < 10 := hf
    omega
  | 1, hf =>
    have : n < 100 := hf
    omega
  | g + 2, hf =>
    refine ⟨g, rfl, ?_, ?_⟩
    · conv => lhs; unfold ydgn
      rw [if_pos (by omega)]
      conv => lhs; lhs; unfold ydgn
      rw [if_pos (by omega), Nat.div_div_eq_div_mul]
    · have e : 10 ^ (g + 2 + 1) = 10 ^ (g + 1) * 100 := by
        rw [Nat.pow_succ, Nat.pow_succ, Nat.mul_assoc]
      rw [e] at hf
      rw [Nat.div_lt_iff_lt_mul (by decide)]
      exact hf
theorem zDg_v {v : Nat} {h h' : zH} (hD : zDg sv h) (hv : (h.1 v).1 = 24) (h1 : ∀ q, q ≠ v → h'.1 q = h.1 q) (h2 : h'.2 = h.2) : zDg sv h' := by
  obtain ⟨a1, a2, O, T, s1, s2, g1, g2, o1, t1, b1, b2⟩ := hD
  have n1 : a1 ≠ v := fun q => by
    rw [← q, g1] at hv
    exact absurd (show (27 : Nat) = 24 from hv) (by decide)
  have n2 : a2 ≠ v := fun q => by
    rw [← q, g2] at hv
    exact absurd (show (27 : Nat) = 24 from hv) (by decide)
  exact ⟨a1, a2, O, T, s1, s2, by rw [h1 _ n1, g1], by rw [h1 _ n2, g2], o1, t1, by rw [h2]; exact b1, by rw [h2]; exact b2⟩
theorem d_12l {v base s : Nat} {l1 : Slot} (hs : s ≤ 1) : ∀ (m f n : Nat), n ≤ m → n < 10 ^ (f + 1) → n ≤ 2 ^ 31 → ∀ (B : List Int32) (h : zH) (l3 l4 : Slot), znw l3 = true → znw l4 = true → zDg sv h → h.1 v = (24, B.map Value.int) → (∀ x, x ∈ B → zty 6 (.int x) = true) → base + s + ydgn f n ≤ B.length → B.length ≤ 1000 → zGch v base B h (zrun zP sv (zcall zP sv d) 12 22 [.val (.int (-(nI n))), l1, .val (.ref v), l3, l4, .val (.int (nI (base + s + ydgn f n))), .val (.int (nI s))] [] h) := by
  intro m
  induction m with
  | zero =>
    intro f n hnm hf hn B h l3 l4 w3 w4 hD hv hty hl hB
    obtain rfl : n = 0 := by omega
    have c1 : ((-100 : Int32) < -(nI 0)) := by rw [nN_100 (by omega)]; decide
    rw [ydgn_100 (by decide) hf] at hl ⊢
    have e := d_12e (d := d) (l1 := l1) (l3 := l3) (l4 := l4) hD hv hty hs (show 0 < 100 by decide) hl hB
    simp only [zs_12_22, zs_12_23, zs_12_25, if_pos c1]
    exact e
  | succ m ih =>
    intro f n hnm hf hn B h l3 l4 w3 w4 hD hv hty hl hB
    by_cases c : n < 100
    · have c1 : ((-100 : Int32) < -(nI n)) := by rw [nN_100 hn]; exact c
      rw [ydgn_100 c hf] at hl ⊢
      have e := d_12e (d := d) (l1 := l1) (l3 := l3) (l4 := l4) hD hv hty hs c hl hB
      simp only [zs_12_22, zs_12_23, zs_12_25, if_pos c1]
      exact e
    · have c1 : ¬ ((-100 : Int32) < -(nI n)) := by rw [nN_100 hn]; exact c
      obtain ⟨g, rfl, ey, hg⟩ := ydgn_2 (show 100 ≤ n by omega) hf
      rw [ey] at hl ⊢
      have hD' := hD
      obtain ⟨a1, a2, O, T, s1, s2, g1, g2, o1, t1, _, _⟩ := hD
      have n1 : v ≠ a1 := fun q => by
        rw [q, g1] at hv
        exact absurd (Prod.mk.inj hv).1 (by decide)
      have n2 : v ≠ a2 := fun q => by
        rw [q, g2] at hv
        exact absurd (Prod.mk.inj hv).1 (by decide)
      have hm : n % 100 < 100 := Nat.mod_lt _ (by decide)
      have rO : ∀ K, zael (27, O.map Value.int) 27 (nI (n % 100)) K = K (.int (O[n % 100]'(by omega))) := fun K => zael_r (by omega) (by omega)
      have rT : ∀ K, zael (27, T.map Value.int) 27 (nI (n % 100)) K = K (.int (T[n % 100]'(by omega))) := fun K => zael_r (by omega) (by omega)
      have zb1 := @zsB B (base + s + ydgn g (n / 100) + 1) (O[n % 100]'(by omega))
      have zb2 := @zsB (B.set (base + s + ydgn g (n / 100) + 1) (ynb (O[n % 100]'(by omega)))) (base + s + ydgn g (n / 100)) (T[n % 100]'(by omega))
      have hl2 : (B.set (base + s + ydgn g (n / 100) + 1) (ynb (O[n % 100]'(by omega)))).length = B.length := List.length_set
      obtain ⟨h1, hh1⟩ : ∃ h1, h1 = zup h v (24, (B.set (base + s + ydgn g (n / 100) + 1) (ynb (O[n % 100]'(by omega)))).map Value.int) := ⟨_, rfl⟩
      have k1 : h1.1 v = (24, (B.set (base + s + ydgn g (n / 100) + 1) (ynb (O[n % 100]'(by omega)))).map Value.int) := by rw [hh1, zup_at]
      have ka : h1.1 a2 = (27, T.map Value.int) := by rw [hh1, zup_ne (Ne.symm n2), g2]
      obtain ⟨h2, hh2⟩ : ∃ h2, h2 = zup h1 v (24, ((B.set (base + s + ydgn g (n / 100) + 1) (ynb (O[n % 100]'(by omega)))).set (base + s + ydgn g (n / 100)) (ynb (T[n % 100]'(by omega)))).map Value.int) := ⟨_, rfl⟩
      have k2 : ∀ q, q ≠ v → h2.1 q = h.1 q := fun q hq => by rw [hh2, zup_ne hq, hh1, zup_ne hq]
      have k3 : h2.2 = h.2 := by rw [hh2, hh1]; rfl
      obtain ⟨h', B', e, p1, p2, p3, p4, p5, p6⟩ := ih g (n / 100) (by omega) hg (by omega) _ h2 (.val (.int (-(nI (n / 100))))) (.val (.int (nI (n % 100)))) znw_i znw_i (zDg_v hD' (by rw [hv]) k2 k3) (by rw [hh2, zup_at]) (yset_ty (yset_ty hty)) (by rw [List.length_set, hl2]; omega) (by rw [List.length_set, hl2]; exact hB)
      refine ⟨h', B', ?_, p1, by rw [p2, List.length_set, hl2], fun i hi => by rw [p3 i hi, List.getElem?_set_ne (by omega), List.getElem?_set_ne (by omega)], p4, fun q hq => (p5 q hq).trans (k2 q hq), p6.trans k3⟩
      rw [← e, show base + s + (ydgn g (n / 100) + 2) = base + s + ydgn g (n / 100) + 1 + 1 by omega]
      have eb : zrun zP sv (zcall zP sv d) 12 69 [.val (.int (-(nI (n / 100)))), l1, .val (.ref v), .val (.int (-(nI (n / 100)))), .val (.int (nI (n % 100))), .val (.int (nI (base + s + ydgn g (n / 100)))), .val (.int (nI s))] [] h2 = zrun zP sv (zcall zP sv d) 12 22 [.val (.int (-(nI (n / 100)))), l1, .val (.ref v), .val (.int (-(nI (n / 100)))), .val (.int (nI (n % 100))), .val (.int (nI (base + s + ydgn g (n / 100)))), .val (.int (nI s))] [] h2 := by rw [zs_12_69]
      rw [← eb]
      simp (disch := first | exact w3 | exact w4 | exact znw_u | exact znw_i | omega) only [zs_12_22, zs_12_23, zs_12_25, zs_12_28, zs_12_29, zs_12_31, zs_12_32, zs_12_33, zs_12_34, zs_12_36, zs_12_37, zs_12_38, zs_12_39, zs_12_41, zs_12_42, zs_12_43, zs_12_44, zs_12_47, zs_12_49, zs_12_52, zs_12_54, zs_12_55, zs_12_56, zs_12_57, zs_12_60, zs_12_62, zs_12_65, zs_12_67, zs_12_68, if_neg c1, nN_div, nN_mod, nI_d, s1, s2, g1, hv, rO, rT, zb1, ← hh1, k1, ka, zb2, hl2, ← hh2]
theorem d_12 {v base : Nat} {x : Int32} {B : List Int32} {h : zH} (hD : zDg sv h) (hv : h.1 v = (24, B.map Value.int)) (hty : ∀ y, y ∈ B → zty 6 (.int y) = true) (hl : base + yilen x ≤ B.length) (hB : B.length ≤ 1000) : zGch v base B h (zcall zP sv (d + 1) 12 [.int x, .int (nI (base + yilen x)), .ref v] h) := by
  obtain ⟨hle, hn, hp⟩ := yabs x
  have h10 : x.toInt.natAbs < 10 ^ (9 + 1) := by omega
  by_cases c : x < 0
  · have ey : yilen x = 1 + ydgn 9 x.toInt.natAbs := by unfold yilen; rw [if_pos c]
    rw [ey] at hl ⊢
    obtain ⟨h', B', e, w⟩ := d_12l (sv := sv) (d := d) (v := v) (base := base) (s := 1) (l1 := .val (.int (nI (base + (1 + ydgn 9 x.toInt.natAbs))))) (Nat.le_refl 1) x.toInt.natAbs 9 x.toInt.natAbs (Nat.le_refl _) h10 hle B h .unset .unset znw_u znw_u hD hv hty (by omega) hB
    refine ⟨h', B', ?_, w⟩
    rw [← e]
    rw [← hn c, Nat.add_assoc]
    simp (disch := first | exact znw_u | exact znw_i) only [zc_12, zs_12_0, zs_12_1, zs_12_3, zs_12_4, zs_12_7, zs_12_8, zs_12_12, zs_12_14, zs_12_16, if_pos c, nI_1e0, ↓reduceIte]
  · have ey : yilen x = ydgn 9 x.toInt.natAbs := by unfold yilen; rw [if_neg c]; omega
    rw [ey] at hl ⊢
    obtain ⟨h', B', e, w⟩ := d_12l (sv := sv) (d := d) (v := v) (base := base) (s := 0) (l1 := .val (.int (nI (base + ydgn 9 x.toInt.natAbs)))) (Nat.zero_le 1) x.toInt.natAbs 9 x.toInt.natAbs (Nat.le_refl _) h10 hle B h .unset .unset znw_u znw_u hD hv hty (by omega) hB
    refine ⟨h', B', ?_, w⟩
    rw [← e]
    rw [← hp c, Nat.add_zero, nI_0]
    simp (disch := first | exact znw_u | exact znw_i) only [zc_12, zs_12_0, zs_12_1, zs_12_3, zs_12_4, zs_12_11, zs_12_12, zs_12_14, zs_12_16, zs_12_19, zs_12_20, zs_12_21, if_neg c, Nat.add_zero, ↓reduceIte]
theorem zDg_bo {r v : Nat} {B B' : List Int32} {h h' : zH} (hD : zDg sv h) (hr : (h.1 r).1 = 2) (hv : (h.1 v).1 = 24) (hf : zbo r v B B' h h') : zDg sv h' := by
  obtain ⟨a1, a2, O, T, s1, s2, g1, g2, o1, t1, b1, b2⟩ := hD
  have n1 : a1 ≠ v := fun q => by rw [← q, g1] at hv; exact absurd (show (27 : Nat) = 24 from hv) (by decide)
  have n2 : a2 ≠ v := fun q => by rw [← q, g2] at hv; exact absurd (show (27 : Nat) = 24 from hv) (by decide)
  have n3 : a1 ≠ r := fun q => by rw [← q, g1] at hr; exact absurd (show (27 : Nat) = 2 from hr) (by decide)
  have n4 : a2 ≠ r := fun q => by rw [← q, g2] at hr; exact absurd (show (27 : Nat) = 2 from hr) (by decide)
  have := hf.2.1
  exact ⟨a1, a2, O, T, s1, s2, by rw [hf.1 _ b1 n3 n1, g1], by rw [hf.1 _ b2 n4 n2, g2], o1, t1, by omega, by omega⟩
theorem zBl_k {h : zH} {r v : Nat} {B o : List Int32} (hb : zBl h r v B o) : (h.1 r).1 = 2 ∧ (h.1 v).1 = 24 := by
  obtain ⟨⟨u, e⟩, ev, _⟩ := hb
  exact ⟨by rw [e], by rw [ev]⟩
/-- a number appended -/
theorem d_9 {h : zH} {r v : Nat} {x : Int32} {B o : List Int32} (hs : sv 0 = .int (nI 1)) (hD : zDg sv h) (hb : zBl h r v B o) (ho : o.length + 11 ≤ 450) : zAd r v B o h (zcall zP sv (d + 5) 9 [.ref r, .int x] h) (some (.ref r)) (yilen x) (yilen x) := by
  have hy := yilen_le x
  obtain ⟨h1, v1, B1, e4, b1, w1, f1, l1⟩ := d_4 (sv := sv) (d := d) (k := o.length + yilen x) hb (by omega)
  have kb := zBl_k hb
  have hD1 := zDg_bo hD kb.1 kb.2 f1
  have rc : ∀ X : zR, zrc (h.1 r) 2 X = X := fun X => zBl_rc hb X
  have rc1 : ∀ X : zR, zrc (h1.1 r) 2 X = X := fun X => zBl_rc b1 X
  have e8 : zcall zP sv (d + 3) 8 [.ref r] h1 = _ := d_8 (d := d + 2) hs b1
  have e11 : zcall zP sv (d + 3) 11 [.int x] h = _ := d_11 (sv := sv) (d := d + 2)
  obtain ⟨⟨u0, e0⟩, _⟩ := hb
  obtain ⟨⟨u, e⟩, ev, ⟨hr, hv, hvr⟩, h3, h4, hL, hty⟩ := b1
  obtain ⟨h2, B2, e12, p1, p2, p3, p4, p5, p6⟩ := d_12 (sv := sv) (d := d + 2) (x := x) (base := o.length) hD1 ev hty l1 hL
  have er : h2.1 r = (2, [.ref v1, .int 0, .int u, .int (nI o.length)]) := by rw [p5 r (Ne.symm hvr), e]
  have hl : (o ++ (B2.drop o.length).take (yilen x)).length = o.length + yilen x := by
    rw [List.length_append, List.length_take, List.length_drop]
    omega
  have e10 : zcall zP sv (d + 4) 10 [.ref r, .int x] h = some (.inl (some (.ref r)), zup h2 r (2, [.ref v1, .int 0, .int u, .int (nI (o.length + yilen x))])) := by
    simp (disch := first | exact znw_u | exact znw_i) only [zc_10, zs_10_0, zs_10_0n, zs_10_1, zs_10_4, zs_10_5, zs_10_6, zs_10_7, zs_10_10, zs_10_11, zs_10_12, zs_10_12n, zs_10_13, zs_10_14, zs_10_17, zs_10_17n, zs_10_18, zs_10_21, zs_10_24, zs_10_25, zs_10_26, zs_10_26n, zs_10_27, zs_10_30, zs_10_33, zs_10_34, zs_10_37, zs_10_38, zs_10_39, zs_10_40, zs_10_40n, zs_10_41, zs_10_48, zs_10_48n, zs_10_49, zs_10_50, zs_10_53, zs_10_53n, zs_10_54, zs_10_54n, e0, e, er, zrc_2, zf_2_0, zp_2_0, zp_2_0n, zf_2_1, zp_2_10, zp_2_11, zf_2_2, zp_2_20, zp_2_21, zf_2_3, zp_2_3, e11, nI_add, rc, rc1, e4, e8, e12, nI_1e0, zbk_v, zts_s, zts_n, ↓reduceIte, List.cons_append, List.nil_append]
  refine ⟨zup h2 r (2, [.ref v1, .int 0, .int u, .int (nI (o.length + yilen x))]), v1, B2, (B2.drop o.length).take (yilen x), ?_, ⟨⟨u, by rw [zup_at, hl]⟩, by rw [zup_ne hvr, p1], ⟨by show r < h2.2.1; rw [p6]; exact hr, by show v1 < h2.2.1; rw [p6]; exact hv, hvr⟩, by rw [hl, p2]; exact l1, ?_, by rw [p2]; exact hL, p4⟩, w1, ⟨fun q q1 q2 q3 => ?_, by show h.2.1 ≤ h2.2.1; rw [p6]; exact f1.2.1, by show h2.2.1 + _ ≤ _; rw [p6, p2]; exact f1.2.2.1, by show h2.2.2 + _ ≤ _; rw [p6, p2]; exact f1.2.2.2.1, by rw [p2]; exact f1.2.2.2.2⟩, ?_, ?_⟩
  · simp (disch := first | exact znw_u | exact znw_i) only [zc_9, zs_9_0, zs_9_0n, zs_9_1, zs_9_2, zs_9_5, zs_9_5n, zs_9_6, zs_9_6n, zs_9_7, zs_9_7n, rc, e10, zbk_v, zts_s, List.cons_append, List.nil_append]
  · rw [hl, List.take_add]
    congr 1
    refine Eq.trans ?_ h4
    apply List.ext_getElem?
    intro i
    by_cases hi : i < o.length
    · rw [List.getElem?_take_of_lt hi, List.getElem?_take_of_lt hi, p3 i hi]
    · rw [List.getElem?_eq_none (by rw [List.length_take]; omega), List.getElem?_eq_none (by rw [List.length_take]; omega)]
  · have hq : q ≠ v1 := by omega
    rw [zup_ne q2, p5 q hq, f1.1 q q1 q2 q3]
  · rw [List.length_take, List.length_drop]
    omega
  · rw [List.length_take, List.length_drop]
    omega
end ZSC

section ZSD
variable {sv : Nat → Value} {d : Nat}
theorem zCdC_cg {h h' : zH} {c : Nat} {q : List yI} {ma : Int32} {A B C P : List Int32} {j : Nat} (hc : zCdC h c q ma A B C P j) (hf : zcg c (c + 22) h h') : zCdC h' c q ma A B C P j := by
  obtain ⟨c0, hg, ⟨K, R, N, L, E, ⟨k1, k2, k3, k4, k5⟩, w⟩, hb, hp, hpl⟩ := hc
  exact ⟨by rw [hf c (by omega) (by omega), c0], zGau_cg hg (zcg_mono hf (by omega) (by omega)), ⟨K, R, N, L, E, ⟨zRow_cg k1 (zcg_mono hf (by omega) (by omega)), zRow_cg k2 (zcg_mono hf (by omega) (by omega)), zRow_cg k3 (zcg_mono hf (by omega) (by omega)), zRow_cg k4 (zcg_mono hf (by omega) (by omega)), zRow_cg k5 (zcg_mono hf (by omega) (by omega))⟩, w⟩, zRow_cg hb (zcg_mono hf (by omega) (by omega)), zRow_cg hp (zcg_mono hf (by omega) (by omega)), hpl⟩
theorem yil1 : ∀ k, k < 10 → yilen (nI k) = 1 := by decide +kernel
theorem ypl4 : ∀ k, k < 13 → (nI k < nI 4) = (k < 4) ∧ (4 ≤ k → nI k - nI 4 = nI (k - 4)) := by
  intro k hk
  have h1 : ∀ k, k < 13 → decide (nI k < nI 4) = decide (k < 4) := by decide +kernel
  have h2 : ∀ k, k < 13 → 4 ≤ k → nI k - nI 4 = nI (k - 4) := by decide +kernel
  exact ⟨by have := h1 k hk; exact propext (decide_eq_decide.mp this), h2 k hk⟩
theorem yis_ch {k : Int32} (hk : yis k = true) : ∃ kk, kk < 128 ∧ k = nI kk ∧ ((nI kk).toUInt32 % 65536).toInt32 = nI kk := by
  have e : ((nI 43).toUInt32 % 65536).toInt32 = nI 43 ∧ ((nI 45).toUInt32 % 65536).toInt32 = nI 45 ∧ ((nI 42).toUInt32 % 65536).toInt32 = nI 42 := by decide +kernel
  rcases yis_k hk with g | g | g
  · exact ⟨43, by decide, g, e.1⟩
  · exact ⟨45, by decide, g, e.2.1⟩
  · exact ⟨42, by decide, g, e.2.2⟩
/-- a place written -/
theorem d_115 {h : zH} {r v k : Nat} {B o : List Int32} (hs : sv 0 = .int (nI 1)) (hD : zDg sv h) (hb : zBl h r v B o) (hk : k < 13) (ho : o.length + 12 ≤ 450) : zAd r v B o h (zcall zP sv (d + 6) 115 [.int (nI k), .ref r] h) none 2 2 := by
  obtain ⟨p1, p2⟩ := ypl4 k hk
  have kb := zBl_k hb
  have rc : ∀ X : zR, zrc (h.1 r) 2 X = X := fun X => zBl_rc hb X
  by_cases c : k < 4
  · have c1 : nI k < nI 4 := by rw [p1]; exact c
    obtain ⟨h1, v1, B1, q1, e1, b1, w1, f1, l1, l1'⟩ := d_15 (sv := sv) (d := d) (k := 114) hs hb (by omega) (by decide)
    have rc1 : ∀ X : zR, zrc (h1.1 r) 2 X = X := fun X => zBl_rc b1 X
    obtain ⟨h2, v2, B2, q2, e2, b2, w2, f2, l2, l2'⟩ := d_9 (sv := sv) (d := d) (x := nI k) hs (zDg_bo hD kb.1 kb.2 f1) b1 (by rw [List.length_append]; omega)
    rw [yil1 k (by omega)] at l2 l2'
    refine ⟨h2, v2, B2, q1 ++ q2, ?_, by rw [← List.append_assoc]; exact b2, by have := f1.2.1; omega, zbo_tr f1 w1 f2, by rw [List.length_append]; omega, by rw [List.length_append]; omega⟩
    simp (disch := first | exact znw_u | exact znw_i) only [zc_115, zs_115_0, zs_115_1, zs_115_2, zs_115_5, zs_115_6, zs_115_9, zs_115_10, zs_115_11, zs_115_12, zs_115_13, zs_115_16, zs_115_18, zs_115_21, zs_115_23, zs_115_26, zs_115_27, zs_115_28, zs_115_29, zs_115_32, zs_115_33, zs_115_34, zs_115_35, zs_115_38, zs_115_39, zs_115_42, zs_115_43, if_pos c1, rc, rc1, e1, e2, zbk_v, zts_s, zts_n, ↓reduceIte, List.cons_append, List.nil_append]
  · have c1 : ¬ nI k < nI 4 := by rw [p1]; exact c
    have c4 := p2 (by omega)
    obtain ⟨h1, v1, B1, q1, e1, b1, w1, f1, l1, l1'⟩ := d_15 (sv := sv) (d := d) (k := 109) hs hb (by omega) (by decide)
    have rc1 : ∀ X : zR, zrc (h1.1 r) 2 X = X := fun X => zBl_rc b1 X
    obtain ⟨h2, v2, B2, q2, e2, b2, w2, f2, l2, l2'⟩ := d_9 (sv := sv) (d := d) (x := nI (k - 4)) hs (zDg_bo hD kb.1 kb.2 f1) b1 (by rw [List.length_append]; omega)
    rw [yil1 (k - 4) (by omega)] at l2 l2'
    refine ⟨h2, v2, B2, q1 ++ q2, ?_, by rw [← List.append_assoc]; exact b2, by have := f1.2.1; omega, zbo_tr f1 w1 f2, by rw [List.length_append]; omega, by rw [List.length_append]; omega⟩
    simp (disch := first | exact znw_u | exact znw_i) only [zc_115, zs_115_0, zs_115_1, zs_115_2, zs_115_5, zs_115_6, zs_115_9, zs_115_10, zs_115_11, zs_115_12, zs_115_13, zs_115_16, zs_115_18, zs_115_21, zs_115_23, zs_115_26, zs_115_27, zs_115_28, zs_115_29, zs_115_32, zs_115_33, zs_115_34, zs_115_35, zs_115_38, zs_115_39, zs_115_42, zs_115_43, if_neg c1, c4, rc, rc1, e1, e2, nI_1e0, zbk_v, zts_s, zts_n, ↓reduceIte, List.cons_append, List.nil_append]
theorem d_114 {h : zH} {r v c n : Nat} {B o : List Int32} {q : List yI} {ma : Int32} {A0 B0 C0 P0 : List Int32} {j0 : Nat} {x : yI} (hs : sv 0 = .int (nI 1)) (hD : zDg sv h) (hb : zBl h r v B o) (hc : zCdC h c q ma A0 B0 C0 P0 j0) (hx : q[n]? = some x) (hok : yIok x) (ho : o.length + 40 ≤ 450) (hrc : r < c) (hvc : v < c ∨ c + 22 ≤ v) (hsz : c + 22 ≤ h.2.1) : zAd r v B o h (zcall zP sv (d + 7) 114 [.ref c, .int (nI n), .ref r] h) none (ywil x) (ywil x) := by
  have kb := zBl_k hb
  have rc : ∀ X : zR, zrc (h.1 r) 2 X = X := fun X => zBl_rc hb X
  obtain ⟨a8, a10, a12, a14, a16⟩ := zCdC_at (sv := sv) (d := d + 5) hc hx
  obtain ⟨r8, r10, r12, r14, r16, _⟩ := zCdC_rr hc
  have c0 := hc.1
  obtain ⟨⟨b, hb3, eb⟩, hcase⟩ := hok
  have p1 : ¬ nI 99 = nI 115 := by decide +kernel
  have p2 : ¬ nI 118 = nI 115 := by decide +kernel
  have p3 : ¬ nI 118 = nI 99 := by decide +kernel
  have p4 : ¬ nI 115 = nI 99 := by decide +kernel
  have p5 : ¬ nI 115 = nI 118 := by decide +kernel
  have p6 : ¬ nI 110 = nI 99 := by decide +kernel
  have p7 : ¬ nI 110 = nI 118 := by decide +kernel
  have p8 : ¬ nI 110 = nI 115 := by decide +kernel
  rcases hcase with g | g | g | g | g
  · obtain ⟨k, b', nn, ll, rr⟩ := x
    have g : k = nI 99 := g
    subst g
    have eb : b' = nI b := eb
    subst eb
    have hy := yilen_le nn
    obtain ⟨h1, v1, B1, q1, e1, b1, w1, f1, l1, l1'⟩ := d_115 (sv := sv) (d := d) (k := b) hs hD hb (by omega) (by omega)
    have D1 := zDg_bo hD kb.1 kb.2 f1
    have kb1 := zBl_k b1
    have rc1 : ∀ X : zR, zrc (h1.1 r) 2 X = X := fun X => zBl_rc b1 X
    have g1 : zcg c (c + 22) h h1 := fun z z1 z2 => f1.1 z (by omega) (by omega) (by omega)
    have C1 := zCdC_cg hc g1
    have s1 : c + 22 ≤ h1.2.1 := by have := f1.2.1; omega
    have vc1 : v1 < c ∨ c + 22 ≤ v1 := by omega
    obtain ⟨a8_1, a10_1, a12_1, a14_1, a16_1⟩ := zCdC_at (sv := sv) (d := d + 5) C1 hx
    obtain ⟨r8_1, r10_1, r12_1, r14_1, r16_1, _⟩ := zCdC_rr C1
    have c0_1 := C1.1
    obtain ⟨h2, v2, B2, q2, e2, b2, w2, f2, l2, l2'⟩ := d_15 (sv := sv) (d := d + 1) (k := 61) hs b1 (by simp only [List.length_append]; omega) (by decide)
    have D2 := zDg_bo D1 kb1.1 kb1.2 f2
    have kb2 := zBl_k b2
    have rc2 : ∀ X : zR, zrc (h2.1 r) 2 X = X := fun X => zBl_rc b2 X
    have g2 : zcg c (c + 22) h1 h2 := fun z z1 z2 => f2.1 z (by omega) (by omega) (by omega)
    have C2 := zCdC_cg C1 g2
    have s2 : c + 22 ≤ h2.2.1 := by have := f2.2.1; omega
    have vc2 : v2 < c ∨ c + 22 ≤ v2 := by omega
    obtain ⟨a8_2, a10_2, a12_2, a14_2, a16_2⟩ := zCdC_at (sv := sv) (d := d + 5) C2 hx
    obtain ⟨r8_2, r10_2, r12_2, r14_2, r16_2, _⟩ := zCdC_rr C2
    have c0_2 := C2.1
    obtain ⟨h3, v3, B3, q3, e3, b3, w3, f3, l3, l3'⟩ := d_9 (sv := sv) (d := d + 1) (x := nn) hs D2 b2 (by simp only [List.length_append]; omega)
    have D3 := zDg_bo D2 kb2.1 kb2.2 f3
    have kb3 := zBl_k b3
    have rc3 : ∀ X : zR, zrc (h3.1 r) 2 X = X := fun X => zBl_rc b3 X
    have g3 : zcg c (c + 22) h2 h3 := fun z z1 z2 => f3.1 z (by omega) (by omega) (by omega)
    have C3 := zCdC_cg C2 g3
    have s3 : c + 22 ≤ h3.2.1 := by have := f3.2.1; omega
    have vc3 : v3 < c ∨ c + 22 ≤ v3 := by omega
    obtain ⟨a8_3, a10_3, a12_3, a14_3, a16_3⟩ := zCdC_at (sv := sv) (d := d + 5) C3 hx
    obtain ⟨r8_3, r10_3, r12_3, r14_3, r16_3, _⟩ := zCdC_rr C3
    have c0_3 := C3.1
    have z1 := f1
    have u1 := w1
    have z2 := zbo_tr z1 u1 f2
    have u2 : v2 = v ∨ h.2.1 ≤ v2 := by have := z1.2.1; omega
    have z3 := zbo_tr z2 u2 f3
    have u3 : v3 = v ∨ h.2.1 ≤ v3 := by have := z2.2.1; omega
    have hlen : (q1 ++ q2 ++ q3).length = ywil (nI 99, nI b, nn, ll, rr) := by
      simp only [List.length_append]
      unfold ywil
      rw [if_pos rfl]
      show _ = 3 + yilen nn
      omega
    refine ⟨h3, v3, B3, q1 ++ q2 ++ q3, ?_, ?_, u3, z3, by rw [hlen]; exact Nat.le_refl _, by rw [hlen]; exact Nat.le_refl _⟩
    · simp (disch := first | exact znw_u | exact znw_i) only [zc_114, zs_114_0, zs_114_1, zs_114_4, zs_114_5, zs_114_8, zs_114_9, zs_114_10, zs_114_12, zs_114_28, zs_114_29, zs_114_32, zs_114_33, zs_114_36, zs_114_37, zs_114_40, zs_114_41, zs_114_43, zs_114_46, zs_114_47, zs_114_48, zs_114_50, zs_114_53, zs_114_54, zs_114_55, zs_114_58, zs_114_59, zs_114_62, zs_114_65, zs_114_66, zs_114_172, c0, zCdl, zrc_12, zf_12_0, zp_12_0, zp_12_0n, zf_12_1, zp_12_1, zp_12_1n, zf_12_2, zp_12_2, zp_12_2n, zf_12_3, zp_12_3, zp_12_3n, zf_12_4, zp_12_4, zp_12_4n, zf_12_5, zp_12_5, zf_12_6, zp_12_6, zp_12_6n, zf_12_7, zp_12_7, zp_12_7n, zf_12_8, zp_12_8, zp_12_8n, zf_12_9, zp_12_9, rc, a8, a10, a12, a14, a16, r8, r10, r12, r14, r16, a8_1, a10_1, a12_1, a14_1, a16_1, r8_1, r10_1, r12_1, r14_1, r16_1, c0_1, rc1, e1, a8_2, a10_2, a12_2, a14_2, a16_2, r8_2, r10_2, r12_2, r14_2, r16_2, c0_2, rc2, e2, a8_3, a10_3, a12_3, a14_3, a16_3, r8_3, r10_3, r12_3, r14_3, r16_3, c0_3, rc3, e3, zbk_v, zts_s, zts_n, if_neg p1, ↓reduceIte, List.cons_append, List.nil_append]
    · simpa only [List.append_assoc] using b3
  · obtain ⟨k, b', nn, ll, rr⟩ := x
    have gl : ylet nn = true := g.2
    have g : k = nI 118 := g.1
    subst g
    have eb : b' = nI b := eb
    subst eb
    have zl2 := (ylet_w gl).2.1
    obtain ⟨kl, hkl, rfl⟩ := ylet_of gl
    obtain ⟨h1, v1, B1, q1, e1, b1, w1, f1, l1, l1'⟩ := d_115 (sv := sv) (d := d) (k := b) hs hD hb (by omega) (by omega)
    have D1 := zDg_bo hD kb.1 kb.2 f1
    have kb1 := zBl_k b1
    have rc1 : ∀ X : zR, zrc (h1.1 r) 2 X = X := fun X => zBl_rc b1 X
    have g1 : zcg c (c + 22) h h1 := fun z z1 z2 => f1.1 z (by omega) (by omega) (by omega)
    have C1 := zCdC_cg hc g1
    have s1 : c + 22 ≤ h1.2.1 := by have := f1.2.1; omega
    have vc1 : v1 < c ∨ c + 22 ≤ v1 := by omega
    obtain ⟨a8_1, a10_1, a12_1, a14_1, a16_1⟩ := zCdC_at (sv := sv) (d := d + 5) C1 hx
    obtain ⟨r8_1, r10_1, r12_1, r14_1, r16_1, _⟩ := zCdC_rr C1
    have c0_1 := C1.1
    obtain ⟨h2, v2, B2, q2, e2, b2, w2, f2, l2, l2'⟩ := d_15 (sv := sv) (d := d + 1) (k := 61) hs b1 (by simp only [List.length_append]; omega) (by decide)
    have D2 := zDg_bo D1 kb1.1 kb1.2 f2
    have kb2 := zBl_k b2
    have rc2 : ∀ X : zR, zrc (h2.1 r) 2 X = X := fun X => zBl_rc b2 X
    have g2 : zcg c (c + 22) h1 h2 := fun z z1 z2 => f2.1 z (by omega) (by omega) (by omega)
    have C2 := zCdC_cg C1 g2
    have s2 : c + 22 ≤ h2.2.1 := by have := f2.2.1; omega
    have vc2 : v2 < c ∨ c + 22 ≤ v2 := by omega
    obtain ⟨a8_2, a10_2, a12_2, a14_2, a16_2⟩ := zCdC_at (sv := sv) (d := d + 5) C2 hx
    obtain ⟨r8_2, r10_2, r12_2, r14_2, r16_2, _⟩ := zCdC_rr C2
    have c0_2 := C2.1
    obtain ⟨h3, v3, B3, q3, e3, b3, w3, f3, l3, l3'⟩ := d_15 (sv := sv) (d := d + 1) (k := 97 + kl) hs b2 (by simp only [List.length_append]; omega) (by omega)
    have D3 := zDg_bo D2 kb2.1 kb2.2 f3
    have kb3 := zBl_k b3
    have rc3 : ∀ X : zR, zrc (h3.1 r) 2 X = X := fun X => zBl_rc b3 X
    have g3 : zcg c (c + 22) h2 h3 := fun z z1 z2 => f3.1 z (by omega) (by omega) (by omega)
    have C3 := zCdC_cg C2 g3
    have s3 : c + 22 ≤ h3.2.1 := by have := f3.2.1; omega
    have vc3 : v3 < c ∨ c + 22 ≤ v3 := by omega
    obtain ⟨a8_3, a10_3, a12_3, a14_3, a16_3⟩ := zCdC_at (sv := sv) (d := d + 5) C3 hx
    obtain ⟨r8_3, r10_3, r12_3, r14_3, r16_3, _⟩ := zCdC_rr C3
    have c0_3 := C3.1
    have z1 := f1
    have u1 := w1
    have z2 := zbo_tr z1 u1 f2
    have u2 : v2 = v ∨ h.2.1 ≤ v2 := by have := z1.2.1; omega
    have z3 := zbo_tr z2 u2 f3
    have u3 : v3 = v ∨ h.2.1 ≤ v3 := by have := z2.2.1; omega
    have hlen : (q1 ++ q2 ++ q3).length = ywil (nI 118, nI b, nI (97 + kl), ll, rr) := by
      simp only [List.length_append]
      unfold ywil
      rw [if_neg p3, if_pos rfl]
      show _ = 4
      omega
    refine ⟨h3, v3, B3, q1 ++ q2 ++ q3, ?_, ?_, u3, z3, by rw [hlen]; exact Nat.le_refl _, by rw [hlen]; exact Nat.le_refl _⟩
    · simp (disch := first | exact znw_u | exact znw_i) only [zc_114, zs_114_0, zs_114_1, zs_114_4, zs_114_5, zs_114_8, zs_114_9, zs_114_10, zs_114_12, zs_114_28, zs_114_29, zs_114_32, zs_114_33, zs_114_36, zs_114_37, zs_114_40, zs_114_41, zs_114_43, zs_114_46, zs_114_47, zs_114_48, zs_114_50, zs_114_69, zs_114_70, zs_114_72, zs_114_75, zs_114_76, zs_114_77, zs_114_80, zs_114_81, zs_114_84, zs_114_85, zs_114_88, zs_114_89, zs_114_172, c0, zCdl, zrc_12, zf_12_0, zp_12_0, zp_12_0n, zf_12_1, zp_12_1, zp_12_1n, zf_12_2, zp_12_2, zp_12_2n, zf_12_3, zp_12_3, zp_12_3n, zf_12_4, zp_12_4, zp_12_4n, zf_12_5, zp_12_5, zf_12_6, zp_12_6, zp_12_6n, zf_12_7, zp_12_7, zp_12_7n, zf_12_8, zp_12_8, zp_12_8n, zf_12_9, zp_12_9, rc, a8, a10, a12, a14, a16, r8, r10, r12, r14, r16, a8_1, a10_1, a12_1, a14_1, a16_1, r8_1, r10_1, r12_1, r14_1, r16_1, c0_1, rc1, e1, a8_2, a10_2, a12_2, a14_2, a16_2, r8_2, r10_2, r12_2, r14_2, r16_2, c0_2, rc2, e2, a8_3, a10_3, a12_3, a14_3, a16_3, r8_3, r10_3, r12_3, r14_3, r16_3, c0_3, rc3, e3, zbk_v, zts_s, zts_n, if_neg p2, if_neg p3, zl2, ↓reduceIte, List.cons_append, List.nil_append]
    · simpa only [List.append_assoc] using b3
  · obtain ⟨k, b', nn, ll, rr⟩ := x
    have gl : ll = b' := g.2
    have g : k = nI 110 := g.1
    subst g
    have eb : b' = nI b := eb
    subst eb
    subst gl
    obtain ⟨h1, v1, B1, q1, e1, b1, w1, f1, l1, l1'⟩ := d_115 (sv := sv) (d := d) (k := b) hs hD hb (by omega) (by omega)
    have D1 := zDg_bo hD kb.1 kb.2 f1
    have kb1 := zBl_k b1
    have rc1 : ∀ X : zR, zrc (h1.1 r) 2 X = X := fun X => zBl_rc b1 X
    have g1 : zcg c (c + 22) h h1 := fun z z1 z2 => f1.1 z (by omega) (by omega) (by omega)
    have C1 := zCdC_cg hc g1
    have s1 : c + 22 ≤ h1.2.1 := by have := f1.2.1; omega
    have vc1 : v1 < c ∨ c + 22 ≤ v1 := by omega
    obtain ⟨a8_1, a10_1, a12_1, a14_1, a16_1⟩ := zCdC_at (sv := sv) (d := d + 5) C1 hx
    obtain ⟨r8_1, r10_1, r12_1, r14_1, r16_1, _⟩ := zCdC_rr C1
    have c0_1 := C1.1
    obtain ⟨h2, v2, B2, q2, e2, b2, w2, f2, l2, l2'⟩ := d_15 (sv := sv) (d := d + 1) (k := 61) hs b1 (by simp only [List.length_append]; omega) (by decide)
    have D2 := zDg_bo D1 kb1.1 kb1.2 f2
    have kb2 := zBl_k b2
    have rc2 : ∀ X : zR, zrc (h2.1 r) 2 X = X := fun X => zBl_rc b2 X
    have g2 : zcg c (c + 22) h1 h2 := fun z z1 z2 => f2.1 z (by omega) (by omega) (by omega)
    have C2 := zCdC_cg C1 g2
    have s2 : c + 22 ≤ h2.2.1 := by have := f2.2.1; omega
    have vc2 : v2 < c ∨ c + 22 ≤ v2 := by omega
    obtain ⟨a8_2, a10_2, a12_2, a14_2, a16_2⟩ := zCdC_at (sv := sv) (d := d + 5) C2 hx
    obtain ⟨r8_2, r10_2, r12_2, r14_2, r16_2, _⟩ := zCdC_rr C2
    have c0_2 := C2.1
    obtain ⟨h3, v3, B3, q3, e3, b3, w3, f3, l3, l3'⟩ := d_15 (sv := sv) (d := d + 1) (k := 45) hs b2 (by simp only [List.length_append]; omega) (by decide)
    have D3 := zDg_bo D2 kb2.1 kb2.2 f3
    have kb3 := zBl_k b3
    have rc3 : ∀ X : zR, zrc (h3.1 r) 2 X = X := fun X => zBl_rc b3 X
    have g3 : zcg c (c + 22) h2 h3 := fun z z1 z2 => f3.1 z (by omega) (by omega) (by omega)
    have C3 := zCdC_cg C2 g3
    have s3 : c + 22 ≤ h3.2.1 := by have := f3.2.1; omega
    have vc3 : v3 < c ∨ c + 22 ≤ v3 := by omega
    obtain ⟨a8_3, a10_3, a12_3, a14_3, a16_3⟩ := zCdC_at (sv := sv) (d := d + 5) C3 hx
    obtain ⟨r8_3, r10_3, r12_3, r14_3, r16_3, _⟩ := zCdC_rr C3
    have c0_3 := C3.1
    obtain ⟨h4, v4, B4, q4, e4, b4, w4, f4, l4, l4'⟩ := d_115 (sv := sv) (d := d) (k := b) hs D3 b3 (by omega) (by simp only [List.length_append]; omega)
    have D4 := zDg_bo D3 kb3.1 kb3.2 f4
    have kb4 := zBl_k b4
    have rc4 : ∀ X : zR, zrc (h4.1 r) 2 X = X := fun X => zBl_rc b4 X
    have g4 : zcg c (c + 22) h3 h4 := fun z z1 z2 => f4.1 z (by omega) (by omega) (by omega)
    have C4 := zCdC_cg C3 g4
    have s4 : c + 22 ≤ h4.2.1 := by have := f4.2.1; omega
    have vc4 : v4 < c ∨ c + 22 ≤ v4 := by omega
    obtain ⟨a8_4, a10_4, a12_4, a14_4, a16_4⟩ := zCdC_at (sv := sv) (d := d + 5) C4 hx
    obtain ⟨r8_4, r10_4, r12_4, r14_4, r16_4, _⟩ := zCdC_rr C4
    have c0_4 := C4.1
    have z1 := f1
    have u1 := w1
    have z2 := zbo_tr z1 u1 f2
    have u2 : v2 = v ∨ h.2.1 ≤ v2 := by have := z1.2.1; omega
    have z3 := zbo_tr z2 u2 f3
    have u3 : v3 = v ∨ h.2.1 ≤ v3 := by have := z2.2.1; omega
    have z4 := zbo_tr z3 u3 f4
    have u4 : v4 = v ∨ h.2.1 ≤ v4 := by have := z3.2.1; omega
    have hlen : (q1 ++ q2 ++ q3 ++ q4).length = ywil (nI 110, nI b, nn, nI b, rr) := by
      simp only [List.length_append]
      unfold ywil
      rw [if_neg p6, if_neg p7, if_neg p8, if_pos rfl]
      omega
    refine ⟨h4, v4, B4, q1 ++ q2 ++ q3 ++ q4, ?_, ?_, u4, z4, by rw [hlen]; exact Nat.le_refl _, by rw [hlen]; exact Nat.le_refl _⟩
    · simp (disch := first | exact znw_u | exact znw_i) only [zc_114, zs_114_0, zs_114_1, zs_114_4, zs_114_5, zs_114_8, zs_114_9, zs_114_10, zs_114_12, zs_114_28, zs_114_29, zs_114_32, zs_114_33, zs_114_36, zs_114_37, zs_114_40, zs_114_41, zs_114_43, zs_114_46, zs_114_47, zs_114_48, zs_114_50, zs_114_69, zs_114_70, zs_114_72, zs_114_92, zs_114_93, zs_114_95, zs_114_113, zs_114_114, zs_114_116, zs_114_119, zs_114_120, zs_114_122, zs_114_125, zs_114_126, zs_114_127, zs_114_130, zs_114_131, zs_114_134, zs_114_135, zs_114_138, zs_114_172, c0, zCdl, zrc_12, zf_12_0, zp_12_0, zp_12_0n, zf_12_1, zp_12_1, zp_12_1n, zf_12_2, zp_12_2, zp_12_2n, zf_12_3, zp_12_3, zp_12_3n, zf_12_4, zp_12_4, zp_12_4n, zf_12_5, zp_12_5, zf_12_6, zp_12_6, zp_12_6n, zf_12_7, zp_12_7, zp_12_7n, zf_12_8, zp_12_8, zp_12_8n, zf_12_9, zp_12_9, rc, a8, a10, a12, a14, a16, r8, r10, r12, r14, r16, a8_1, a10_1, a12_1, a14_1, a16_1, r8_1, r10_1, r12_1, r14_1, r16_1, c0_1, rc1, e1, a8_2, a10_2, a12_2, a14_2, a16_2, r8_2, r10_2, r12_2, r14_2, r16_2, c0_2, rc2, e2, a8_3, a10_3, a12_3, a14_3, a16_3, r8_3, r10_3, r12_3, r14_3, r16_3, c0_3, rc3, e3, a8_4, a10_4, a12_4, a14_4, a16_4, r8_4, r10_4, r12_4, r14_4, r16_4, c0_4, rc4, e4, zbk_v, zts_s, zts_n, if_neg p6, if_neg p7, if_neg p8, ↓reduceIte, List.cons_append, List.nil_append]
    · simpa only [List.append_assoc] using b4
  · obtain ⟨k, b', nn, ll, rr⟩ := x
    obtain ⟨j, hj, ej⟩ := g.2.1
    have gl : ll = b' := g.2.2
    have g : k = nI 115 := g.1
    subst g
    have eb : b' = nI b := eb
    subst eb
    subst gl
    have ej : nn = nI j := ej
    subst ej
    obtain ⟨h1, v1, B1, q1, e1, b1, w1, f1, l1, l1'⟩ := d_115 (sv := sv) (d := d) (k := 4 + j) hs hD hb (by omega) (by omega)
    have D1 := zDg_bo hD kb.1 kb.2 f1
    have kb1 := zBl_k b1
    have rc1 : ∀ X : zR, zrc (h1.1 r) 2 X = X := fun X => zBl_rc b1 X
    have g1 : zcg c (c + 22) h h1 := fun z z1 z2 => f1.1 z (by omega) (by omega) (by omega)
    have C1 := zCdC_cg hc g1
    have s1 : c + 22 ≤ h1.2.1 := by have := f1.2.1; omega
    have vc1 : v1 < c ∨ c + 22 ≤ v1 := by omega
    obtain ⟨a8_1, a10_1, a12_1, a14_1, a16_1⟩ := zCdC_at (sv := sv) (d := d + 5) C1 hx
    obtain ⟨r8_1, r10_1, r12_1, r14_1, r16_1, _⟩ := zCdC_rr C1
    have c0_1 := C1.1
    obtain ⟨h2, v2, B2, q2, e2, b2, w2, f2, l2, l2'⟩ := d_15 (sv := sv) (d := d + 1) (k := 61) hs b1 (by simp only [List.length_append]; omega) (by decide)
    have D2 := zDg_bo D1 kb1.1 kb1.2 f2
    have kb2 := zBl_k b2
    have rc2 : ∀ X : zR, zrc (h2.1 r) 2 X = X := fun X => zBl_rc b2 X
    have g2 : zcg c (c + 22) h1 h2 := fun z z1 z2 => f2.1 z (by omega) (by omega) (by omega)
    have C2 := zCdC_cg C1 g2
    have s2 : c + 22 ≤ h2.2.1 := by have := f2.2.1; omega
    have vc2 : v2 < c ∨ c + 22 ≤ v2 := by omega
    obtain ⟨a8_2, a10_2, a12_2, a14_2, a16_2⟩ := zCdC_at (sv := sv) (d := d + 5) C2 hx
    obtain ⟨r8_2, r10_2, r12_2, r14_2, r16_2, _⟩ := zCdC_rr C2
    have c0_2 := C2.1
    obtain ⟨h3, v3, B3, q3, e3, b3, w3, f3, l3, l3'⟩ := d_115 (sv := sv) (d := d) (k := b) hs D2 b2 (by omega) (by simp only [List.length_append]; omega)
    have D3 := zDg_bo D2 kb2.1 kb2.2 f3
    have kb3 := zBl_k b3
    have rc3 : ∀ X : zR, zrc (h3.1 r) 2 X = X := fun X => zBl_rc b3 X
    have g3 : zcg c (c + 22) h2 h3 := fun z z1 z2 => f3.1 z (by omega) (by omega) (by omega)
    have C3 := zCdC_cg C2 g3
    have s3 : c + 22 ≤ h3.2.1 := by have := f3.2.1; omega
    have vc3 : v3 < c ∨ c + 22 ≤ v3 := by omega
    obtain ⟨a8_3, a10_3, a12_3, a14_3, a16_3⟩ := zCdC_at (sv := sv) (d := d + 5) C3 hx
    obtain ⟨r8_3, r10_3, r12_3, r14_3, r16_3, _⟩ := zCdC_rr C3
    have c0_3 := C3.1
    have z1 := f1
    have u1 := w1
    have z2 := zbo_tr z1 u1 f2
    have u2 : v2 = v ∨ h.2.1 ≤ v2 := by have := z1.2.1; omega
    have z3 := zbo_tr z2 u2 f3
    have u3 : v3 = v ∨ h.2.1 ≤ v3 := by have := z2.2.1; omega
    have hlen : (q1 ++ q2 ++ q3).length = ywil (nI 115, nI b, nI j, nI b, rr) := by
      simp only [List.length_append]
      unfold ywil
      rw [if_neg p4, if_neg p5, if_pos rfl]
      omega
    refine ⟨h3, v3, B3, q1 ++ q2 ++ q3, ?_, ?_, u3, z3, by rw [hlen]; exact Nat.le_refl _, by rw [hlen]; exact Nat.le_refl _⟩
    · simp (disch := first | exact znw_u | exact znw_i) only [zc_114, zs_114_0, zs_114_1, zs_114_4, zs_114_5, zs_114_8, zs_114_9, zs_114_10, zs_114_12, zs_114_15, zs_114_16, zs_114_17, zs_114_20, zs_114_21, zs_114_24, zs_114_25, zs_114_36, zs_114_37, zs_114_40, zs_114_41, zs_114_43, zs_114_46, zs_114_47, zs_114_48, zs_114_50, zs_114_69, zs_114_70, zs_114_72, zs_114_92, zs_114_93, zs_114_95, zs_114_98, zs_114_99, zs_114_102, zs_114_103, zs_114_106, zs_114_107, zs_114_110, zs_114_172, c0, zCdl, zrc_12, zf_12_0, zp_12_0, zp_12_0n, zf_12_1, zp_12_1, zp_12_1n, zf_12_2, zp_12_2, zp_12_2n, zf_12_3, zp_12_3, zp_12_3n, zf_12_4, zp_12_4, zp_12_4n, zf_12_5, zp_12_5, zf_12_6, zp_12_6, zp_12_6n, zf_12_7, zp_12_7, zp_12_7n, zf_12_8, zp_12_8, zp_12_8n, zf_12_9, zp_12_9, rc, a8, a10, a12, a14, a16, r8, r10, r12, r14, r16, a8_1, a10_1, a12_1, a14_1, a16_1, r8_1, r10_1, r12_1, r14_1, r16_1, c0_1, rc1, e1, a8_2, a10_2, a12_2, a14_2, a16_2, r8_2, r10_2, r12_2, r14_2, r16_2, c0_2, rc2, e2, a8_3, a10_3, a12_3, a14_3, a16_3, r8_3, r10_3, r12_3, r14_3, r16_3, c0_3, rc3, e3, zbk_v, zts_s, zts_n, if_neg p4, if_neg p5, nI_add, ↓reduceIte, List.cons_append, List.nil_append]
    · simpa only [List.append_assoc] using b3
  · obtain ⟨k, b', nn, ll, rr⟩ := x
    obtain ⟨gk, ⟨xx, hxx, exx⟩, ⟨yy, hyy, eyy⟩⟩ := g
    have gk : yis k = true := gk
    have exx : ll = nI xx := exx
    have eyy : rr = nI yy := eyy
    subst exx eyy
    have eb : b' = nI b := eb
    subst eb
    obtain ⟨n1, n2, n3, n4⟩ := yis_ne gk
    obtain ⟨kk, hkk, ekk, ck⟩ : ∃ kk, kk < 128 ∧ k = nI kk ∧ ((nI kk).toUInt32 % 65536).toInt32 = nI kk := yis_ch gk
    subst ekk
    obtain ⟨h1, v1, B1, q1, e1, b1, w1, f1, l1, l1'⟩ := d_115 (sv := sv) (d := d) (k := b) hs hD hb (by omega) (by omega)
    have D1 := zDg_bo hD kb.1 kb.2 f1
    have kb1 := zBl_k b1
    have rc1 : ∀ X : zR, zrc (h1.1 r) 2 X = X := fun X => zBl_rc b1 X
    have g1 : zcg c (c + 22) h h1 := fun z z1 z2 => f1.1 z (by omega) (by omega) (by omega)
    have C1 := zCdC_cg hc g1
    have s1 : c + 22 ≤ h1.2.1 := by have := f1.2.1; omega
    have vc1 : v1 < c ∨ c + 22 ≤ v1 := by omega
    obtain ⟨a8_1, a10_1, a12_1, a14_1, a16_1⟩ := zCdC_at (sv := sv) (d := d + 5) C1 hx
    obtain ⟨r8_1, r10_1, r12_1, r14_1, r16_1, _⟩ := zCdC_rr C1
    have c0_1 := C1.1
    obtain ⟨h2, v2, B2, q2, e2, b2, w2, f2, l2, l2'⟩ := d_15 (sv := sv) (d := d + 1) (k := 61) hs b1 (by simp only [List.length_append]; omega) (by decide)
    have D2 := zDg_bo D1 kb1.1 kb1.2 f2
    have kb2 := zBl_k b2
    have rc2 : ∀ X : zR, zrc (h2.1 r) 2 X = X := fun X => zBl_rc b2 X
    have g2 : zcg c (c + 22) h1 h2 := fun z z1 z2 => f2.1 z (by omega) (by omega) (by omega)
    have C2 := zCdC_cg C1 g2
    have s2 : c + 22 ≤ h2.2.1 := by have := f2.2.1; omega
    have vc2 : v2 < c ∨ c + 22 ≤ v2 := by omega
    obtain ⟨a8_2, a10_2, a12_2, a14_2, a16_2⟩ := zCdC_at (sv := sv) (d := d + 5) C2 hx
    obtain ⟨r8_2, r10_2, r12_2, r14_2, r16_2, _⟩ := zCdC_rr C2
    have c0_2 := C2.1
    obtain ⟨h3, v3, B3, q3, e3, b3, w3, f3, l3, l3'⟩ := d_115 (sv := sv) (d := d) (k := xx) hs D2 b2 (by omega) (by simp only [List.length_append]; omega)
    have D3 := zDg_bo D2 kb2.1 kb2.2 f3
    have kb3 := zBl_k b3
    have rc3 : ∀ X : zR, zrc (h3.1 r) 2 X = X := fun X => zBl_rc b3 X
    have g3 : zcg c (c + 22) h2 h3 := fun z z1 z2 => f3.1 z (by omega) (by omega) (by omega)
    have C3 := zCdC_cg C2 g3
    have s3 : c + 22 ≤ h3.2.1 := by have := f3.2.1; omega
    have vc3 : v3 < c ∨ c + 22 ≤ v3 := by omega
    obtain ⟨a8_3, a10_3, a12_3, a14_3, a16_3⟩ := zCdC_at (sv := sv) (d := d + 5) C3 hx
    obtain ⟨r8_3, r10_3, r12_3, r14_3, r16_3, _⟩ := zCdC_rr C3
    have c0_3 := C3.1
    obtain ⟨h4, v4, B4, q4, e4, b4, w4, f4, l4, l4'⟩ := d_15 (sv := sv) (d := d + 1) (k := kk) hs b3 (by simp only [List.length_append]; omega) hkk
    have D4 := zDg_bo D3 kb3.1 kb3.2 f4
    have kb4 := zBl_k b4
    have rc4 : ∀ X : zR, zrc (h4.1 r) 2 X = X := fun X => zBl_rc b4 X
    have g4 : zcg c (c + 22) h3 h4 := fun z z1 z2 => f4.1 z (by omega) (by omega) (by omega)
    have C4 := zCdC_cg C3 g4
    have s4 : c + 22 ≤ h4.2.1 := by have := f4.2.1; omega
    have vc4 : v4 < c ∨ c + 22 ≤ v4 := by omega
    obtain ⟨a8_4, a10_4, a12_4, a14_4, a16_4⟩ := zCdC_at (sv := sv) (d := d + 5) C4 hx
    obtain ⟨r8_4, r10_4, r12_4, r14_4, r16_4, _⟩ := zCdC_rr C4
    have c0_4 := C4.1
    obtain ⟨h5, v5, B5, q5, e5, b5, w5, f5, l5, l5'⟩ := d_115 (sv := sv) (d := d) (k := yy) hs D4 b4 (by omega) (by simp only [List.length_append]; omega)
    have D5 := zDg_bo D4 kb4.1 kb4.2 f5
    have kb5 := zBl_k b5
    have rc5 : ∀ X : zR, zrc (h5.1 r) 2 X = X := fun X => zBl_rc b5 X
    have g5 : zcg c (c + 22) h4 h5 := fun z z1 z2 => f5.1 z (by omega) (by omega) (by omega)
    have C5 := zCdC_cg C4 g5
    have s5 : c + 22 ≤ h5.2.1 := by have := f5.2.1; omega
    have vc5 : v5 < c ∨ c + 22 ≤ v5 := by omega
    obtain ⟨a8_5, a10_5, a12_5, a14_5, a16_5⟩ := zCdC_at (sv := sv) (d := d + 5) C5 hx
    obtain ⟨r8_5, r10_5, r12_5, r14_5, r16_5, _⟩ := zCdC_rr C5
    have c0_5 := C5.1
    have z1 := f1
    have u1 := w1
    have z2 := zbo_tr z1 u1 f2
    have u2 : v2 = v ∨ h.2.1 ≤ v2 := by have := z1.2.1; omega
    have z3 := zbo_tr z2 u2 f3
    have u3 : v3 = v ∨ h.2.1 ≤ v3 := by have := z2.2.1; omega
    have z4 := zbo_tr z3 u3 f4
    have u4 : v4 = v ∨ h.2.1 ≤ v4 := by have := z3.2.1; omega
    have z5 := zbo_tr z4 u4 f5
    have u5 : v5 = v ∨ h.2.1 ≤ v5 := by have := z4.2.1; omega
    have hlen : (q1 ++ q2 ++ q3 ++ q4 ++ q5).length = ywil (nI kk, nI b, nn, nI xx, nI yy) := by
      simp only [List.length_append]
      unfold ywil
      rw [if_neg n1, if_neg n2, if_neg n4, if_neg n3]
      omega
    refine ⟨h5, v5, B5, q1 ++ q2 ++ q3 ++ q4 ++ q5, ?_, ?_, u5, z5, by rw [hlen]; exact Nat.le_refl _, by rw [hlen]; exact Nat.le_refl _⟩
    · simp (disch := first | exact znw_u | exact znw_i) only [zc_114, zs_114_0, zs_114_1, zs_114_4, zs_114_5, zs_114_8, zs_114_9, zs_114_10, zs_114_12, zs_114_28, zs_114_29, zs_114_32, zs_114_33, zs_114_36, zs_114_37, zs_114_40, zs_114_41, zs_114_43, zs_114_46, zs_114_47, zs_114_48, zs_114_50, zs_114_69, zs_114_70, zs_114_72, zs_114_92, zs_114_93, zs_114_95, zs_114_113, zs_114_114, zs_114_116, zs_114_141, zs_114_142, zs_114_145, zs_114_146, zs_114_149, zs_114_150, zs_114_153, zs_114_154, zs_114_155, zs_114_156, zs_114_159, zs_114_160, zs_114_161, zs_114_164, zs_114_165, zs_114_168, zs_114_169, zs_114_172, c0, zCdl, zrc_12, zf_12_0, zp_12_0, zp_12_0n, zf_12_1, zp_12_1, zp_12_1n, zf_12_2, zp_12_2, zp_12_2n, zf_12_3, zp_12_3, zp_12_3n, zf_12_4, zp_12_4, zp_12_4n, zf_12_5, zp_12_5, zf_12_6, zp_12_6, zp_12_6n, zf_12_7, zp_12_7, zp_12_7n, zf_12_8, zp_12_8, zp_12_8n, zf_12_9, zp_12_9, rc, a8, a10, a12, a14, a16, r8, r10, r12, r14, r16, a8_1, a10_1, a12_1, a14_1, a16_1, r8_1, r10_1, r12_1, r14_1, r16_1, c0_1, rc1, e1, a8_2, a10_2, a12_2, a14_2, a16_2, r8_2, r10_2, r12_2, r14_2, r16_2, c0_2, rc2, e2, a8_3, a10_3, a12_3, a14_3, a16_3, r8_3, r10_3, r12_3, r14_3, r16_3, c0_3, rc3, e3, a8_4, a10_4, a12_4, a14_4, a16_4, r8_4, r10_4, r12_4, r14_4, r16_4, c0_4, rc4, e4, a8_5, a10_5, a12_5, a14_5, a16_5, r8_5, r10_5, r12_5, r14_5, r16_5, c0_5, rc5, e5, zbk_v, zts_s, zts_n, if_neg n1, if_neg n2, if_neg n3, if_neg n4, ck, ↓reduceIte, List.cons_append, List.nil_append]
    · simpa only [List.append_assoc] using b5
end ZSD

section ZSE
variable {sv : Nat → Value} {d : Nat}
theorem d_87 {k : Int32} {h : zH} : zcall zP sv (d + 1) 87 [.int k] h = some (.inl (some (.int (yow k))), h) := by
  unfold yow
  by_cases q1 : k = nI 43
  · rw [if_pos q1]
    simp only [zc_87, zs_87_0, zs_87_1, zs_87_3, zs_87_6, zs_87_7, zs_87_9, zs_87_12, zs_87_13, zs_87_14, zs_87_15, zs_87_17, zs_87_20, zs_87_21, zs_87_24, zs_87_25, if_pos q1]
  · rw [if_neg q1]
    by_cases q2 : k = nI 45
    · rw [if_pos q2]
      simp only [zc_87, zs_87_0, zs_87_1, zs_87_3, zs_87_6, zs_87_7, zs_87_9, zs_87_12, zs_87_13, zs_87_14, zs_87_15, zs_87_17, zs_87_20, zs_87_21, zs_87_24, zs_87_25, if_neg q1, if_pos q2]
    · rw [if_neg q2]
      by_cases q3 : k = nI 42
      · rw [if_pos q3]
        simp only [zc_87, zs_87_0, zs_87_1, zs_87_3, zs_87_6, zs_87_7, zs_87_9, zs_87_12, zs_87_13, zs_87_14, zs_87_15, zs_87_17, zs_87_20, zs_87_21, zs_87_24, zs_87_25, if_neg q1, if_neg q2, if_pos q3]
      · rw [if_neg q3]
        simp only [zc_87, zs_87_0, zs_87_1, zs_87_3, zs_87_6, zs_87_7, zs_87_9, zs_87_12, zs_87_13, zs_87_14, zs_87_15, zs_87_17, zs_87_20, zs_87_21, zs_87_24, zs_87_25, if_neg q1, if_neg q2, if_neg q3]
theorem zTre_kd {h : zH} {t m : Nat} {ns : List yN} (ht : zTre h t m ns) : ∀ q, t ≤ q → q < t + 9 → (h.1 q).1 = 6 ∨ (h.1 q).1 = 4 ∨ (h.1 q).1 = 20 := by
  obtain ⟨K, N, L, R, e, ⟨k1, k2, k3, k4⟩, _⟩ := ht
  intro q q1 q2
  rcases (show q = t ∨ q = t + 1 ∨ q = t + 1 + 1 ∨ q = t + 3 ∨ q = t + 3 + 1 ∨ q = t + 5 ∨ q = t + 5 + 1 ∨ q = t + 7 ∨ q = t + 7 + 1 by omega) with rfl | rfl | rfl | rfl | rfl | rfl | rfl | rfl | rfl
  · rw [e]; exact Or.inl rfl
  · rw [k1.1]; exact Or.inr (Or.inl rfl)
  · rw [k1.2.1]; exact Or.inr (Or.inr rfl)
  · rw [k2.1]; exact Or.inr (Or.inl rfl)
  · rw [k2.2.1]; exact Or.inr (Or.inr rfl)
  · rw [k3.1]; exact Or.inr (Or.inl rfl)
  · rw [k3.2.1]; exact Or.inr (Or.inr rfl)
  · rw [k4.1]; exact Or.inr (Or.inl rfl)
  · rw [k4.2.1]; exact Or.inr (Or.inr rfl)
theorem zTre_bo {h h' : zH} {t m r v : Nat} {ns : List yN} {B B' o : List Int32} (ht : zTre h t m ns) (hb : zBl h r v B o) (hsz : t + 9 ≤ h.2.1) (hf : zbo r v B B' h h') : zTre h' t m ns := by
  have kb := zBl_k hb
  refine zTre_cg ht (fun q q1 q2 => hf.1 q (by omega) (fun z => ?_) (fun z => ?_))
  · have := zTre_kd ht q q1 q2
    rw [z, kb.1] at this
    omega
  · have := zTre_kd ht q q1 q2
    rw [z, kb.2] at this
    omega
def zW9 (sv : Nat → Value) (D t mt : Nat) (ns : List yN) (r : Nat) (x : Int32) (u : yT) : Prop := ∀ (nn : Int32) (ℓ : Nat) (h : zH) (v : Nat) (B o : List Int32), zTre h t mt ns → t + 9 ≤ h.2.1 → zDg sv h → zBl h r v B o → ℓ + ydp u ≤ 41 → o.length + 13 * ysz u ≤ 431 → zAd r v B o h (zcall zP sv D 89 [.ref t, .int x, .int nn, .ref r, .int (nI ℓ)] h) none 0 (13 * ysz u - 2)
def zW8 (sv : Nat → Value) (D t mt : Nat) (ns : List yN) (r : Nat) (x : Int32) (u : yT) : Prop := ∀ (ls nn : Int32) (ℓ : Nat) (h : zH) (v : Nat) (B o : List Int32), zTre h t mt ns → t + 9 ≤ h.2.1 → zDg sv h → zBl h r v B o → ℓ + ydp u ≤ 41 → o.length + 13 * ysz u ≤ 430 → zAd r v B o h (zcall zP sv D 88 [.ref t, .int x, .int ls, .int nn, .ref r, .int (nI ℓ)] h) none 0 (13 * ysz u)
theorem d_88 {D t mt r i : Nat} {ns : List yN} {nd : yN} {u : yT} (hs : sv 0 = .int (nI 1)) (hnd : ns[i]? = some nd) (hu : 1 ≤ ysz u) (W : zW9 sv (D + 6) t mt ns r (nI i) u) : zW8 sv (D + 7) t mt ns r (nI i) u := by
  intro ls nn ℓ h v B o ht hsz hD hb hL ho
  have kb := zBl_k hb
  have rc : ∀ X : zR, zrc (h.1 r) 2 X = X := fun X => zBl_rc hb X
  have trc : ∀ X : zR, zrc (h.1 t) 6 X = X := fun X => zTre_rc ht
  have e184 : zcall zP sv (D + 6) 184 [.ref t, .int (nI i)] h = _ := d_184 (d := D + 4) ht hnd
  have e87 : zcall zP sv (D + 6) 87 [.int nd.1] h = _ := d_87 (d := D + 5)
  -- with parentheses
  have A : ∀ l7 : Slot, zAd r v B o h (zrun zP sv (zcall zP sv (D + 6)) 88 41 [.val (.ref t), .val (.int (nI i)), .val (.int ls), .val (.int nn), .val (.ref r), .val (.int (nI ℓ)), .val (.int nd.1), l7] [] h) none 0 (13 * ysz u) := by
    intro l7
    obtain ⟨h1, v1, B1, q1, e1, b1, w1, f1, l1, l1'⟩ := d_15 (sv := sv) (d := D + 1) (k := 40) hs hb (by omega) (by decide)
    have ht1 := zTre_bo ht hb hsz f1
    have D1 := zDg_bo hD kb.1 kb.2 f1
    have kb1 := zBl_k b1
    have s1 : t + 9 ≤ h1.2.1 := by have := f1.2.1; omega
    obtain ⟨h2, v2, B2, q2, e2, b2, w2, f2, l2, l2'⟩ := W 0 ℓ h1 v1 B1 _ ht1 s1 D1 b1 hL (by rw [List.length_append]; omega)
    have D2 := zDg_bo D1 kb1.1 kb1.2 f2
    obtain ⟨h3, v3, B3, q3, e3, b3, w3, f3, l3, l3'⟩ := d_15 (sv := sv) (d := D + 1) (k := 41) hs b2 (by rw [List.length_append, List.length_append]; omega) (by decide)
    have rc2 : ∀ X : zR, zrc (h2.1 r) 2 X = X := fun X => zBl_rc b2 X
    have z2 := zbo_tr f1 w1 f2
    have u2 : v2 = v ∨ h.2.1 ≤ v2 := by have := f1.2.1; omega
    have z3 := zbo_tr z2 u2 f3
    refine ⟨h3, v3, B3, q1 ++ q2 ++ q3, ?_, by simpa only [List.append_assoc] using b3, by have := z2.2.1; omega, z3, Nat.zero_le _, by rw [List.length_append, List.length_append]; omega⟩
    simp (disch := first | exact znw_u | exact znw_i) only [zs_88_41, zs_88_43, zs_88_45, zs_88_48, zs_88_49, zs_88_50, zs_88_51, zs_88_52, zs_88_54, zs_88_56, zs_88_59, zs_88_61, zs_88_63, zs_88_66, zs_88_67, zs_88_80, rc, rc2, e1, e2, e3, zbk_v, zts_s, zts_n, List.cons_append, List.nil_append]
  have Bp : ∀ l7 : Slot, zAd r v B o h (zrun zP sv (zcall zP sv (D + 6)) 88 70 [.val (.ref t), .val (.int (nI i)), .val (.int ls), .val (.int nn), .val (.ref r), .val (.int (nI ℓ)), .val (.int nd.1), l7] [] h) none 0 (13 * ysz u) := by
    intro l7
    obtain ⟨h2, v2, B2, q2, e2, b2, w2, f2, l2, l2'⟩ := W nn ℓ h v B o ht hsz hD hb hL (by omega)
    refine ⟨h2, v2, B2, q2, ?_, b2, w2, f2, Nat.zero_le _, by omega⟩
    simp (disch := first | exact znw_u | exact znw_i) only [zs_88_70, zs_88_71, zs_88_72, zs_88_73, zs_88_75, zs_88_77, zs_88_80, e2, zbk_v, zts_n, List.cons_append, List.nil_append]
  have hd : ∃ f : Int32, (f = 0 ∨ f = nI 1) ∧ zcall zP sv (D + 7) 88 [.ref t, .int (nI i), .int ls, .int nn, .ref r, .int (nI ℓ)] h = zrun zP sv (zcall zP sv (D + 6)) 88 27 [.val (.ref t), .val (.int (nI i)), .val (.int ls), .val (.int nn), .val (.ref r), .val (.int (nI ℓ)), .val (.int nd.1), .val (.int f)] [] h := by
    by_cases c1 : nd.1 = nI 110
    · by_cases c2 : nn < nI 6
      · refine ⟨0, Or.inl rfl, ?_⟩
        simp (disch := first | exact znw_u | exact znw_i) only [zc_88, zs_88_0, zs_88_1, zs_88_2, zs_88_5, zs_88_7, zs_88_9, zs_88_11, zs_88_14, zs_88_15, zs_88_17, zs_88_24, zs_88_25, trc, e184, if_pos c1, if_pos c2, zbk_v, zts_s, List.cons_append, List.nil_append]
      · refine ⟨nI 1, Or.inr rfl, ?_⟩
        simp (disch := first | exact znw_u | exact znw_i) only [zc_88, zs_88_0, zs_88_1, zs_88_2, zs_88_5, zs_88_7, zs_88_9, zs_88_11, zs_88_14, zs_88_15, zs_88_17, zs_88_20, zs_88_21, zs_88_25, trc, e184, if_pos c1, if_neg c2, zbk_v, zts_s, List.cons_append, List.nil_append]
    · refine ⟨0, Or.inl rfl, ?_⟩
      simp (disch := first | exact znw_u | exact znw_i) only [zc_88, zs_88_0, zs_88_1, zs_88_2, zs_88_5, zs_88_7, zs_88_9, zs_88_11, zs_88_24, zs_88_25, trc, e184, if_neg c1, zbk_v, zts_s, List.cons_append, List.nil_append]
  obtain ⟨f, hf, e0⟩ := hd
  rw [e0]
  by_cases c3 : yow nd.1 < ls
  · obtain ⟨h2, v2, B2, q2, e2, w⟩ := A (.val (.int f))
    refine ⟨h2, v2, B2, q2, ?_, w⟩
    rw [← e2]
    simp (disch := first | exact znw_u | exact znw_i) only [zs_88_27, zs_88_29, zs_88_32, zs_88_33, e87, if_pos c3, zbk_v, zts_s, List.cons_append, List.nil_append]
  · rcases hf with rfl | rfl
    · obtain ⟨h2, v2, B2, q2, e2, w⟩ := Bp (.val (.int 0))
      refine ⟨h2, v2, B2, q2, ?_, w⟩
      rw [← e2]
      simp (disch := first | exact znw_u | exact znw_i) only [zs_88_27, zs_88_29, zs_88_32, zs_88_33, zs_88_36, zs_88_38, e87, if_neg c3, zbk_v, zts_s, ↓reduceIte, List.cons_append, List.nil_append]
    · obtain ⟨h2, v2, B2, q2, e2, w⟩ := A (.val (.int (nI 1)))
      refine ⟨h2, v2, B2, q2, ?_, w⟩
      rw [← e2]
      simp (disch := first | exact znw_u | exact znw_i) only [zs_88_27, zs_88_29, zs_88_32, zs_88_33, zs_88_36, zs_88_38, e87, if_neg c3, nI_1e0, zbk_v, zts_s, ↓reduceIte, List.cons_append, List.nil_append]
theorem d_89 {t mt r : Nat} {ns : List yN} (hs : sv 0 = .int (nI 1)) (hw : ywf ns) : ∀ (n : Nat) (u : yT) (x : Int32) (D : Nat), ydp u ≤ n → ytw u = true → ych ns.length x → ygt (ytm ns) x = u → 2 * ydp u + 4 ≤ D → zW9 sv D t mt ns r x u
  | 0, u, x, D, hn, ht, hx, hu, hD => by
    cases u with
    | leaf => cases ht
    | inner _ _ _ l r =>
      have : max (ydp l) (ydp r) + 1 ≤ 0 := hn
      omega
  | n + 1, u, x, D, hn, htw, hx, hu, hDD => by
    intro nn ℓ h v B o ht hsz hD hb hL ho
    have hln := hw.1
    rcases hx with rfl | ⟨i, hi, rfl⟩
    · rw [ygt_n] at hu
      subst hu
      cases htw
    · obtain ⟨nd, hnd⟩ := ynd_ex hi
      have hch := ych_lt hw hnd
      rw [ygt_at hw hnd] at hu
      have e : u = .inner 0 nd.1 nd.2.1 (ygt (ytm ns) nd.2.2.1) (ygt (ytm ns) nd.2.2.2) := hu.symm
      generalize hle : ygt (ytm ns) nd.2.2.1 = l at *
      generalize hre : ygt (ytm ns) nd.2.2.2 = rr at *
      subst e
      have hD' : 2 * (max (ydp l) (ydp rr) + 1) + 4 ≤ D := hDD
      have hn' : max (ydp l) (ydp rr) + 1 ≤ n + 1 := hn
      have hL' : ℓ + (max (ydp l) (ydp rr) + 1) ≤ 41 := hL
      have ho' : o.length + 13 * (ysz l + ysz rr + 1) ≤ 431 := ho
      have esz : 13 * ysz (.inner 0 nd.1 nd.2.1 l rr : yT) - 2 = 13 * (ysz l + ysz rr + 1) - 2 := rfl
      rw [esz]
      obtain ⟨D, rfl⟩ : ∃ D', D = D' + 6 := ⟨D - 6, by omega⟩
      have kb := zBl_k hb
      have rc : ∀ X : zR, zrc (h.1 r) 2 X = X := fun X => zBl_rc hb X
      have trc : ∀ X : zR, zrc (h.1 t) 6 X = X := fun X => zTre_rc ht
      have c40 : ¬ nI 40 < nI ℓ := nI_nlt (by omega) (by omega)
      have e184 : zcall zP sv (D + 5) 184 [.ref t, .int (nI i)] h = _ := d_184 (d := D + 3) ht hnd
      have e185 : zcall zP sv (D + 5) 185 [.ref t, .int (nI i)] h = _ := d_185 (d := D + 3) ht hnd
      have p3 : ¬ nI 118 = nI 99 := by decide +kernel
      have p6 : ¬ nI 110 = nI 99 := by decide +kernel
      have p7 : ¬ nI 110 = nI 118 := by decide +kernel
      rcases ytw_el htw with g0 | g0 | g0 | g0
      · obtain ⟨g1, g2, g3⟩ := g0
        have hy := yilen_le nd.2.1
        obtain ⟨h1, v1, B1, q1, e1, b1, w1, f1, l1, l1'⟩ := d_9 (sv := sv) (d := D) (x := nd.2.1) hs hD hb (by omega)
        rw [g1] at e184
        refine ⟨h1, v1, B1, q1, ?_, b1, w1, f1, Nat.zero_le _, by omega⟩
        simp (disch := first | exact znw_u | exact znw_i) only [zc_89, zs_89_0, zs_89_2, zs_89_4, zs_89_8, zs_89_9, zs_89_10, zs_89_13, zs_89_15, zs_89_17, zs_89_19, zs_89_22, zs_89_23, zs_89_24, zs_89_25, zs_89_28, zs_89_31, zs_89_32, zs_89_142, if_neg c40, trc, rc, e184, e185, e1, zbk_v, zts_s, zts_n, ↓reduceIte, List.cons_append, List.nil_append]
      · obtain ⟨g1, gl, g2, g3⟩ := g0
        have zl2 := (ylet_w gl).2.1
        obtain ⟨kl, hkl, ekl⟩ := ylet_of gl
        rw [ekl] at zl2 e185
        obtain ⟨h1, v1, B1, q1, e1, b1, w1, f1, l1, l1'⟩ := d_15 (sv := sv) (d := D) (k := 97 + kl) hs hb (by omega) (by omega)
        rw [g1] at e184
        refine ⟨h1, v1, B1, q1, ?_, b1, w1, f1, Nat.zero_le _, by omega⟩
        simp (disch := first | exact znw_u | exact znw_i) only [zc_89, zs_89_0, zs_89_2, zs_89_4, zs_89_8, zs_89_9, zs_89_10, zs_89_13, zs_89_15, zs_89_17, zs_89_19, zs_89_35, zs_89_37, zs_89_39, zs_89_42, zs_89_43, zs_89_44, zs_89_45, zs_89_48, zs_89_49, zs_89_52, zs_89_53, zs_89_142, if_neg c40, trc, rc, e184, e185, if_neg p3, zl2, e1, zbk_v, zts_s, zts_n, ↓reduceIte, List.cons_append, List.nil_append]
      · obtain ⟨g1, gv, g2, g3⟩ := g0
        have hrz : ydp rr = 0 := by rw [g3]; rfl
        have hrs : ysz rr = 0 := by rw [g3]; rfl
        have hlz := ytw_sz g2
        have hlp : 1 ≤ ydp l := by
          cases l with
          | leaf => cases g2
          | inner _ _ _ a b => show 1 ≤ max (ydp a) (ydp b) + 1; omega
        obtain ⟨D, rfl⟩ : ∃ D', D = D' + 2 := ⟨D - 2, by omega⟩
        obtain ⟨h1, v1, B1, q1, e1, b1, w1, f1, l1, l1'⟩ := d_15 (sv := sv) (d := D + 2) (k := 45) hs hb (by omega) (by decide)
        have ht1 := zTre_bo ht hb hsz f1
        have D1 := zDg_bo hD kb.1 kb.2 f1
        have s1 : t + 9 ≤ h1.2.1 := by have := f1.2.1; omega
        obtain ⟨i2, hi2, ei2⟩ : ∃ i2, i2 < ns.length ∧ nd.2.2.1 = nI i2 := by
          rcases hch.1 with z | z
          · rw [z, ygt_n] at hle
            rw [← hle] at g2
            cases g2
          · exact z
        obtain ⟨nd2, hnd2⟩ := ynd_ex hi2
        have W9 := d_89 (t := t) (mt := mt) (r := r) hs hw n l nd.2.2.1 (D + 6) (by omega) g2 hch.1 hle (by omega)
        rw [ei2] at W9
        obtain ⟨h2, v2, B2, q2, e2, b2, w2, f2, l2, l2'⟩ := d_88 (D := D) hs hnd2 hlz W9 (nI 3) (nn + nI 1) (ℓ + 1) h1 v1 B1 _ ht1 s1 D1 b1 (by omega) (by rw [List.length_append]; omega)
        have e186 : zcall zP sv (D + 7) 186 [.ref t, .int (nI i)] h1 = _ := d_186 (d := D + 5) ht1 hnd
        have trc1 : ∀ X : zR, zrc (h1.1 t) 6 X = X := fun X => zTre_rc ht1
        rw [← ei2] at e2
        rw [g1] at e184
        have z2 := zbo_tr f1 w1 f2
        refine ⟨h2, v2, B2, q1 ++ q2, ?_, by rw [← List.append_assoc]; exact b2, by have := f1.2.1; omega, z2, Nat.zero_le _, by rw [List.length_append]; omega⟩
        simp (disch := first | exact znw_u | exact znw_i) only [zc_89, zs_89_0, zs_89_2, zs_89_4, zs_89_8, zs_89_9, zs_89_10, zs_89_13, zs_89_15, zs_89_17, zs_89_19, zs_89_35, zs_89_37, zs_89_39, zs_89_56, zs_89_58, zs_89_60, zs_89_63, zs_89_64, zs_89_66, zs_89_69, zs_89_70, zs_89_71, zs_89_72, zs_89_73, zs_89_76, zs_89_77, zs_89_78, zs_89_79, zs_89_80, zs_89_81, zs_89_83, zs_89_84, zs_89_85, zs_89_88, zs_89_142, if_neg c40, trc, trc1, rc, e184, e186, if_neg p6, if_neg p7, nI_1', e1, e2, zbk_v, zts_s, zts_n, ↓reduceIte, List.cons_append, List.nil_append]
      · obtain ⟨gk, gv, g2, g3⟩ := g0
        obtain ⟨n1, n2, n3, n4⟩ := yis_ne gk
        obtain ⟨kk, hkk, ekk, ck⟩ := yis_ch gk
        have hlz := ytw_sz g2
        have hrz := ytw_sz g3
        have hlp : 1 ≤ ydp l := by
          cases l with
          | leaf => cases g2
          | inner _ _ _ a b => show 1 ≤ max (ydp a) (ydp b) + 1; omega
        obtain ⟨D, rfl⟩ : ∃ D', D = D' + 2 := ⟨D - 2, by omega⟩
        obtain ⟨i2, hi2, ei2⟩ : ∃ i2, i2 < ns.length ∧ nd.2.2.1 = nI i2 := by
          rcases hch.1 with z | z
          · rw [z, ygt_n] at hle
            rw [← hle] at g2
            cases g2
          · exact z
        obtain ⟨i3, hi3, ei3⟩ : ∃ i3, i3 < ns.length ∧ nd.2.2.2 = nI i3 := by
          rcases hch.2 with z | z
          · rw [z, ygt_n] at hre
            rw [← hre] at g3
            cases g3
          · exact z
        obtain ⟨nd2, hnd2⟩ := ynd_ex hi2
        obtain ⟨nd3, hnd3⟩ := ynd_ex hi3
        have Wl := d_89 (t := t) (mt := mt) (r := r) hs hw n l nd.2.2.1 (D + 6) (by omega) g2 hch.1 hle (by omega)
        have Wr := d_89 (t := t) (mt := mt) (r := r) hs hw n rr nd.2.2.2 (D + 6) (by omega) g3 hch.2 hre (by omega)
        rw [ei2] at Wl
        rw [ei3] at Wr
        have e186 : zcall zP sv (D + 7) 186 [.ref t, .int (nI i)] h = _ := d_186 (d := D + 5) ht hnd
        have e87 : zcall zP sv (D + 7) 87 [.int nd.1] h = _ := d_87 (d := D + 6)
        obtain ⟨h1, v1, B1, q1, e1, b1, w1, f1, l1, l1'⟩ := d_88 (D := D) hs hnd2 hlz Wl (yow nd.1) 0 (ℓ + 1) h v B o ht hsz hD hb (by omega) (by omega)
        have ht1 := zTre_bo ht hb hsz f1
        have D1 := zDg_bo hD kb.1 kb.2 f1
        have kb1 := zBl_k b1
        have s1 : t + 9 ≤ h1.2.1 := by have := f1.2.1; omega
        have rc1 : ∀ X : zR, zrc (h1.1 r) 2 X = X := fun X => zBl_rc b1 X
        obtain ⟨h2, v2, B2, q2, e2, b2, w2, f2, l2, l2'⟩ := d_15 (sv := sv) (d := D + 2) (k := kk) hs b1 (by rw [List.length_append]; omega) hkk
        have ht2 := zTre_bo ht1 b1 s1 f2
        have D2 := zDg_bo D1 kb1.1 kb1.2 f2
        have s2 : t + 9 ≤ h2.2.1 := by have := f2.2.1; omega
        have e187 : zcall zP sv (D + 7) 187 [.ref t, .int (nI i)] h2 = _ := d_187 (d := D + 5) ht2 hnd
        have trc2 : ∀ X : zR, zrc (h2.1 t) 6 X = X := fun X => zTre_rc ht2
        obtain ⟨h3, v3, B3, q3, e3, b3, w3, f3, l3, l3'⟩ := d_88 (D := D) hs hnd3 hrz Wr (yow nd.1 + nI 1) 0 (ℓ + 1) h2 v2 B2 _ ht2 s2 D2 b2 (by omega) (by rw [List.length_append, List.length_append]; omega)
        rw [← ei2] at e1
        rw [← ei3] at e3
        have z2 := zbo_tr f1 w1 f2
        have u2 : v2 = v ∨ h.2.1 ≤ v2 := by have := f1.2.1; omega
        have z3 := zbo_tr z2 u2 f3
        refine ⟨h3, v3, B3, q1 ++ q2 ++ q3, ?_, by simpa only [List.append_assoc] using b3, by have := z2.2.1; omega, z3, Nat.zero_le _, by rw [List.length_append, List.length_append]; omega⟩
        rw [← ekk] at ck e2
        simp (disch := first | exact znw_u | exact znw_i) only [zc_89, zs_89_0, zs_89_2, zs_89_4, zs_89_8, zs_89_9, zs_89_10, zs_89_13, zs_89_15, zs_89_17, zs_89_19, zs_89_35, zs_89_37, zs_89_39, zs_89_56, zs_89_58, zs_89_60, zs_89_91, zs_89_93, zs_89_96, zs_89_98, zs_89_99, zs_89_100, zs_89_101, zs_89_104, zs_89_106, zs_89_107, zs_89_108, zs_89_110, zs_89_111, zs_89_112, zs_89_115, zs_89_116, zs_89_118, zs_89_119, zs_89_122, zs_89_123, zs_89_124, zs_89_125, zs_89_126, zs_89_129, zs_89_131, zs_89_132, zs_89_133, zs_89_134, zs_89_135, zs_89_137, zs_89_138, zs_89_139, zs_89_142, if_neg c40, trc, trc2, rc, rc1, e184, e186, e187, e87, if_neg n1, if_neg n2, if_neg n3, ck, nI_1', e1, e2, e3, zbk_v, zts_s, zts_n, ↓reduceIte, List.cons_append, List.nil_append]
end ZSE
