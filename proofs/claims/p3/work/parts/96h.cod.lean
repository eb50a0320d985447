section ZQS
variable {sv : Nat → Value} {d : Nat} {m : Nat} {h : zH} {w : yW} {th : Int32} {i : Nat} {t : yT} {M : Nat}
/-- how many bits of a number are set, as the library counts them -/
def ysh1 (x y : Int32) : Int32 := (x.toUInt32 >>> (y.toUInt32 &&& Int32.toUInt32 31)).toInt32
def ybc1 (x : Int32) : Int32 := x - (ysh1 x (nI 1) &&& nI 1431655765)
def ybc2 (x : Int32) : Int32 := (x &&& nI 858993459) + (ysh1 x (nI 2) &&& nI 858993459)
def ybc3 (x : Int32) : Int32 := (x + ysh1 x (nI 4)) &&& nI 252645135
def ybc4 (x : Int32) : Int32 := x + ysh1 x (nI 8)
def ybc5 (x : Int32) : Int32 := (x + ysh1 x (nI 16)) &&& nI 63
def ybc (x : Int32) : Int32 := ybc5 (ybc4 (ybc3 (ybc2 (ybc1 x))))
theorem e_22 {x : Int32} : zcall zP sv (d + 1) 22 [.int x] h = some (.inl (some (.int (ybc x))), h) := by
  simp (disch := first | exact znw_u | exact znw_i) only [zc_22, zs_22_0, zs_22_1, zs_22_2, zs_22_3, zs_22_4, zs_22_7, zs_22_8, zs_22_9, zs_22_10, zs_22_11, zs_22_14, zs_22_15, zs_22_16, zs_22_17, zs_22_18, zs_22_21, zs_22_22, zs_22_23, zs_22_24, zs_22_25, zs_22_26, zs_22_27, zs_22_28, zs_22_29, zs_22_32, zs_22_33, zs_22_34, zs_22_35, zs_22_36, zs_22_38, zs_22_39, zs_22_40, zs_22_41, zs_22_42, zs_22_43, zs_22_45, zs_22_46, zs_22_47, zs_22_48, zs_22_49, zs_22_51, zs_22_52]
  rfl
theorem ybc_ok : ∀ s, s < 21 → ybc (nI (2 ^ s - 1)) = nI s := by decide +kernel
theorem e_275 (hM : zMdl h m w th) (hi : (ycur w).1[i]? = some t) (hR : (ycur w).2.2.1 = nI M) (h1M : 1 ≤ M) (hM4 : M ≤ 4) : zMC m h (zcall zP sv (d + 12) 275 [.ref m, .int (nI i)] h) (nI (yslo (yco M t 0 0))) w 0 := by
  obtain ⟨F, N, g1, g2, g3, _⟩ := zMdl_n1 hM hR
  obtain ⟨h1, e1, m1, k1⟩ := e_272 (sv := sv) (d := d) hM hi h1M hM4
  refine ⟨h1, ?_, zMdC_M m1, k1⟩
  obtain ⟨F1, _, ⟨s0, s19, s20, s21, _⟩, _, _, _, _, tk⟩ := m1
  have hs := yslo_co (M := M) (ysz t) t (Nat.le_refl _) tk.1 [] 0 0 (by have := tk.2.2; omega)
  have h0 : yslo [] = 0 := rfl
  rw [List.nil_append, h0] at hs
  have h8 := tk.2.2
  have E : zcall zP sv (d + 11) 22 [.int (nI (2 ^ yslo (yco M t 0 0) - 1))] h1 = _ := e_22 (d := d + 10)
  rw [ybc_ok _ (by omega)] at E
  simp (disch := first | exact znw_u | exact znw_i) only [zc_275, zs_275_0, zs_275_0n, zs_275_1, zs_275_2, zs_275_2n, zs_275_3, zs_275_6, zs_275_7, zs_275_8, zs_275_11, zs_275_14, zs_275_14n, zs_275_15, zs_275_18, zs_275_21, zs_275_24, zs_275_25, g1, zmf_0, g2, g3, zrc_13v, e1, zbk_v, zts_s, nI_1e0, s0, zmf_21, s21, E, ↓reduceIte, List.cons_append, List.nil_append]
theorem e_276x {x : Int32} (hM : zMdl h m w th) (hx : yinF (ycur w) x = false) : zMC m h (zcall zP sv (d + 8) 276 [.ref m, .int x] h) 0 w (nI 1) := by
  obtain ⟨h1, e1, m1, k1⟩ := e_272x (sv := sv) (d := d) (y := nI 1) hM hx
  have r0 : ∀ X : zR, zrc (h.1 m) 13 X = X := fun X => zMdl_rc hM
  refine ⟨h1, ?_, m1, k1⟩
  obtain ⟨F, f31, ⟨hm, _⟩, _⟩ := m1
  have hm' : h1.1 m = (13, zMF m F) := hm
  have c1 : ¬ nI 4 < nI 1 := by decide +kernel
  simp (disch := first | exact znw_u | exact znw_i) only [zc_276, zs_276_0, zs_276_1, zs_276_2, zs_276_3, zs_276_4, zs_276_7, zs_276_8, zs_276_9, zs_276_10, zs_276_13, zs_276_23, zs_276_24, zs_276_27, zs_276_34, zs_276_35, r0, e1, hm', zmf_31, f31, if_neg c1, zbk_v, zts_s, nI_1e0, ↓reduceIte, List.cons_append, List.nil_append]
/-- the least number of registers, of n from k on, with which a term's code stores none -/
def ylr (t : yT) : Nat → Nat → Option Nat
  | _, 0 => none
  | k, n + 1 => if ycs (yco k t 0 0) = 0 then some k else ylr t (k + 1) n
theorem e_276l (hi : (ycur w).1[i]? = some t) : ∀ n k (h : zH) (th : Int32), 1 ≤ k → k + n = 5 → zMdl h m w th → ∃ h', zrun zP sv (zcall zP sv (d + 11)) 276 2 [.val (.ref m), .val (.int (nI i)), .val (.int (nI k))] [] h = some (.inl (some (.int (match ylr t k n with | some c => nI c | none => 0))), h') ∧ zMdl h' m w (match ylr t k n with | some _ => 0 | none => nI 2) ∧ zmw m h h' := by
  intro n
  induction n with
  | zero =>
    intro k h th h1 hk hM
    obtain rfl : k = 5 := by omega
    obtain ⟨F, g, g1, g2, _⟩ := zMdl_31 (x := nI 2) hM
    have E2 : zcall zP sv (d + 11) 198 [.ref m, .int (nI 2)] h = _ := e_198 (sv := sv) (d := d + 10) g
    have c1 : nI 4 < nI 5 := by decide +kernel
    rw [show ylr t 5 0 = none from rfl]
    refine ⟨_, ?_, g1, g2⟩
    simp only [zs_276_2, zs_276_3, zs_276_4, zs_276_42, zs_276_43, zs_276_44, zs_276_47, if_pos c1, g, zrc_13v, E2, zbk_v, zts_s, List.cons_append, List.nil_append]
  | succ n ih =>
    intro k h th h1 hk hM
    have c1 : ¬ nI 4 < nI k := nI_nlt (by omega) (by omega)
    have r0 : ∀ X : zR, zrc (h.1 m) 13 X = X := fun X => zMdl_rc hM
    obtain ⟨h2, e2, m2, k2⟩ := e_272 (sv := sv) (d := d) hM hi h1 (show k ≤ 4 by omega)
    have m2' := zMdC_M m2
    obtain ⟨F1, f31, ⟨s0, s19, s20, s21, _⟩, _⟩ := m2
    by_cases c : ycs (yco k t 0 0) = 0
    · have q : ylr t k (n + 1) = some k := by unfold ylr; rw [if_pos c]
      rw [q]
      rw [c, nI_0] at s20
      refine ⟨h2, ?_, m2', k2⟩
      simp only [zs_276_2, zs_276_3, zs_276_4, zs_276_7, zs_276_8, zs_276_9, zs_276_10, zs_276_13, zs_276_16, zs_276_17, zs_276_20, zs_276_23, zs_276_24, zs_276_27, zs_276_30, zs_276_31, zs_276_35, if_neg c1, r0, e2, s0, zmf_20, s20, zmf_31, f31, zbk_v, zts_s, nI_1e0, ↓reduceIte, List.cons_append, List.nil_append]
    · have q : ylr t k (n + 1) = ylr t (k + 1) n := by conv => lhs; unfold ylr; rw [if_neg c]
      have hz : (nI (ycs (yco k t 0 0)) = 0) = False := by
        have h3 := ycs_le (q := yco k t 0 0)
        have h4 : (yco k t 0 0).length + 1 ≤ 2 * ysz t := by
          have tk := (zMdl_A hM).2.1 t (List.mem_of_getElem? hi)
          exact yco_len (ysz t) t (Nat.le_refl _) tk.1 0 0
        have h5 : ysz t ≤ 31 := ((zMdl_A hM).2.1 t (List.mem_of_getElem? hi)).2.1
        exact eq_false (nI_ne0 (by omega) (by omega))
      obtain ⟨h3, e3, m3, k3⟩ := ih (k + 1) h2 0 (by omega) (by omega) m2'
      rw [q]
      refine ⟨h3, ?_, m3, zmw_tr k2 k3⟩
      rw [← e3]
      have eb : zrun zP sv (zcall zP sv (d + 11)) 276 36 [.val (.ref m), .val (.int (nI i)), .val (.int (nI k))] [] h2 = zrun zP sv (zcall zP sv (d + 11)) 276 2 [.val (.ref m), .val (.int (nI i)), .val (.int (nI (k + 1)))] [] h2 := by rw [zs_276_36, zs_276_39, nI_1']
      rw [← eb]
      simp only [zs_276_2, zs_276_3, zs_276_4, zs_276_7, zs_276_8, zs_276_9, zs_276_10, zs_276_13, zs_276_16, zs_276_17, zs_276_20, if_neg c1, r0, e2, s0, zmf_20, s20, hz, zbk_v, zts_s, nI_1e0, ↓reduceIte, List.cons_append, List.nil_append]
theorem e_276 (hM : zMdl h m w th) (hi : (ycur w).1[i]? = some t) : zMC m h (zcall zP sv (d + 12) 276 [.ref m, .int (nI i)] h) (match ylr t 1 4 with | some c => nI c | none => 0) w (match ylr t 1 4 with | some _ => 0 | none => nI 2) := by
  obtain ⟨h', e, m1, k1⟩ := e_276l (sv := sv) (d := d) hi 4 1 h th (Nat.le_refl 1) rfl hM
  refine ⟨h', ?_, m1, k1⟩
  rw [← e]
  simp (disch := first | exact znw_u | exact znw_i) only [zc_276, zs_276_0, zs_276_1]
/-- the depth of a formula that is looked at -/
theorem e_288 (hM : zMdl h m w th) (hi : (ycur w).1[i]? = some t) : ∃ h', zcall zP sv (d + 7) 288 [.ref m, .int (nI i)] h = some (.inl (some (.int (nI (ydp t)))), h') ∧ zMdl h' m w th ∧ zmw m h h' := by
  obtain ⟨F, f31, hw, ⟨T, hT⟩, hr, hA⟩ := hM
  obtain ⟨hm, ⟨N, hN, hn⟩, hs⟩ := id hw
  have hm0 : h.1 m = (13, zMF m F) := hm
  obtain ⟨⟨p0, l5⟩, ⟨p1, l7⟩, hsf, c2, c3, c4, c5, c6⟩ := id hs
  have tk := hA.2.1 t (List.mem_of_getElem? hi)
  have hlt := ypr_len t
  obtain ⟨h1, e2, a1, a2, a3, a4⟩ := e_206 (sv := sv) (d := d + 5) (F := F) (h := h) (hn.2.2.2.2.2 i t hi) hm hN l5
  rw [hlt] at a1
  obtain ⟨N', hN', hl'⟩ : ∃ N', h1.1 (m + 1) = (20, N'.map Value.int) ∧ N'.length = 387 := ⟨N, by rw [a3 _ (by omega) (by omega) (by omega), hN.1], hN.2⟩
  have hsf1 : zSF h1 m := by
    obtain ⟨St3, Fd3, s1', s2', s3', s4'⟩ := hsf
    exact ⟨St3, Fd3, by rw [a3 _ (by omega) (by omega) (by omega), s1'], s2', by rw [a3 _ (by omega) (by omega) (by omega), s3'], s4'⟩
  obtain ⟨h2, e3, q1, q2⟩ := e_213 (sv := sv) (d := d + 3) (w := 1) (by decide) tk.1 (by have := tk.2.1; omega) a1 yup_eq a2 hN' hl' hsf1
  rw [ymf1 t tk.1 (by have := tk.2.2; omega)] at e3
  have fr : ∀ q, q ≠ m → q ≠ m + 5 → q ≠ m + 6 → q ≠ m + 9 → q ≠ m + 10 → h2.1 q = h.1 q := fun q z1 z2 z3 z4 z5 => by rw [q2.1 q z4 z5, a3 q z1 z2 z3]
  have g2 : h2.1 m = (13, zMF m (yup F 8 (nI (ysz t)))) := by rw [q2.1 _ (by omega) (by omega)]; exact a1
  have r1 : ∀ X : zR, zrc (h1.1 m) 13 X = X := fun X => zMo_rc a1
  refine ⟨h2, ?_, ⟨_, by rw [yup_ne (by omega), f31], ⟨g2, ⟨N, zTab_cg hN (fr _ (by omega) (by omega) (by omega) (by omega) (by omega)), hn⟩, ⟨⟨_, zLst_cg a2 (q2.1 _ (by omega) (by omega)) (q2.1 _ (by omega) (by omega))⟩, ⟨p1, zLst_cg l7 (fr _ (by omega) (by omega) (by omega) (by omega) (by omega)) (fr _ (by omega) (by omega) (by omega) (by omega) (by omega))⟩, zFS_SF q1, zArr_cg c2 (fr _ (by omega) (by omega) (by omega) (by omega) (by omega)), zArr_cg c3 (fr _ (by omega) (by omega) (by omega) (by omega) (by omega)), zArr_cg c4 (fr _ (by omega) (by omega) (by omega) (by omega) (by omega)), zArr_cg c5 (fr _ (by omega) (by omega) (by omega) (by omega) (by omega)), zArr_cg c6 (fr _ (by omega) (by omega) (by omega) (by omega) (by omega))⟩⟩, ⟨T, zTab_cg hT (fr _ (by omega) (by omega) (by omega) (by omega) (by omega))⟩, zRst_cg hr ⟨yup_ne (by omega), yup_ne (by omega), yup_ne (by omega), yup_ne (by omega), yup_ne (by omega)⟩ (fr _ (by omega) (by omega) (by omega) (by omega) (by omega)) (fr _ (by omega) (by omega) (by omega) (by omega) (by omega)) (fr _ (by omega) (by omega) (by omega) (by omega) (by omega)) (fr _ (by omega) (by omega) (by omega) (by omega) (by omega)), hA⟩, ⟨fun q hq => fr q (by omega) (by omega) (by omega) (by omega) (by omega), by rw [q2.2, a4]⟩⟩
  have E3 : zcall zP sv (d + 6) 213 [.ref m, .int (nI 1)] h1 = some (.inl (some (.int (nI (ydp t)))), h2) := e3
  have E2 : zcall zP sv (d + 6) 206 [.ref m, .int (nI i)] h = some (.inl none, h1) := e2
  simp only [zc_288, zs_288_0, zs_288_0n, zs_288_1, zs_288_2, zs_288_5, zs_288_5n, zs_288_6, zs_288_7, zs_288_10, hm0, zrc_13v, r1, E2, E3, zbk_v, zts_s, zts_n, List.cons_append, List.nil_append]
end ZQS
