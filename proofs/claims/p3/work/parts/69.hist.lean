/-- a History at g: its ring of eight States at g + 2 + 4 k; H: what is remembered, the latest first -/
def zHL (g : Nat) : List Value := [.ref (g + 2), .ref (g + 6), .ref (g + 10), .ref (g + 14), .ref (g + 18), .ref (g + 22), .ref (g + 26), .ref (g + 30)]
def zHis (h : zH) (g : Nat) (H : List yS) : Prop := ∃ nx, nx < 8 ∧ h.1 g = (5, [.ref (g + 1), .int (nI nx), .int (nI H.length)]) ∧ h.1 (g + 1) = (26, zHL g) ∧ (∀ k, k < 8 → ∃ S, zSta h (g + 2 + 4 * k) S) ∧ (∀ j S, H[j]? = some S → zSta h (g + 2 + 4 * ((nx + 7 - j) % 8)) S) ∧ H.length ≤ 8
theorem zHL_k {g : Nat} : ∀ k, k < 8 → (zHL g)[k]? = some (.ref (g + 2 + 4 * k)) := by
  intro k hk
  rcases (show k = 0 ∨ k = 1 ∨ k = 2 ∨ k = 3 ∨ k = 4 ∨ k = 5 ∨ k = 6 ∨ k = 7 by omega) with rfl | rfl | rfl | rfl | rfl | rfl | rfl | rfl <;> rfl
theorem zHis_fr {h h' : zH} {lo hi g : Nat} {H : List yS} (hg : zHis h g H) (hf : zfr lo hi h h') (hq : g + 34 ≤ lo ∨ hi ≤ g) : zHis h' g H := by
  obtain ⟨nx, h0, h1, h2, h3, h4, h5⟩ := hg
  refine ⟨nx, h0, by rw [hf.1 g (by omega), h1], by rw [hf.1 (g + 1) (by omega), h2], fun k hk => ?_, fun j S hj => ?_, h5⟩
  · obtain ⟨S, hS⟩ := h3 k hk
    exact ⟨S, zSta_fr hS hf (by omega)⟩
  · exact zSta_fr (h4 j S hj) hf (by omega)
theorem zHis_rc {h : zH} {g : Nat} {H : List yS} {X : zR} (hg : zHis h g H) : zrc (h.1 g) 5 X = X := by
  obtain ⟨nx, _, h1, _⟩ := hg
  rw [h1]
  exact zrc_k
theorem nI_mod8 : ∀ a, a < 16 → nI a - nI a / nI 8 * nI 8 = nI (a % 8) := by decide +kernel
theorem nI_78 {n : Nat} (h : n < 8) : nI n + nI 8 - nI 1 = nI (n + 7) := by
  rw [nI_add, show n + 8 = n + 7 + 1 by omega, ← nI_add (n + 7) 1, Int32.add_sub_cancel]
section ZDL
variable {sv : Nat → Value} {d : Nat}
theorem d_131 {h : zH} {g : Nat} {H : List yS} (hg : zHis h g H) : zcall zP sv (d + 1) 131 [.ref g] h = some (.inl (some (.int (nI H.length))), h) := by
  obtain ⟨nx, _, h1, _⟩ := hg
  rw [zc_131, zs_131_0, zs_131_1, h1, zf_5_2, zs_131_4]
theorem d_134 {h : zH} {g : Nat} {H : List yS} (hg : zHis h g H) : ∃ h', zcall zP sv (d + 1) 134 [.ref g] h = some (.inl none, h') ∧ zHis h' g [] ∧ zfr g (g + 34) h h' := by
  obtain ⟨nx, h0, h1, h2, h3, h4, h5⟩ := hg
  have f1 : zfr g (g + 1) h (zup h g (5, [.ref (g + 1), .int (nI nx), .int 0])) := zfr_up (by omega) (by omega)
  refine ⟨zup h g (5, [.ref (g + 1), .int (nI nx), .int 0]), ?_, ⟨nx, h0, by rw [zup_at, List.length_nil, nI_0], by rw [zup_ne (by omega), h2], fun k hk => ?_, fun j S hj => ?_, by decide⟩, zfr_mono f1 (by omega) (by omega)⟩
  · simp only [zc_134, zs_134_0, zs_134_0n, zs_134_1, zs_134_2, zs_134_5, h1, zrc_5, zf_5_0, zp_5_0, zp_5_0n, zf_5_1, zp_5_1, zf_5_2, zp_5_2]
  · obtain ⟨S, hS⟩ := h3 k hk
    exact ⟨S, zSta_fr hS f1 (by omega)⟩
  · rw [List.getElem?_nil] at hj
    cases hj
theorem d_135 {h : zH} {g nx : Nat} {v1 v2 : Value} (h1 : h.1 g = (5, [.ref (g + 1), v1, v2])) (h2 : h.1 (g + 1) = (26, zHL g)) (hn : nx < 8) : zcall zP sv (d + 1) 135 [.ref g, .int (nI nx)] h = some (.inl (some (.ref (g + 2 + 4 * nx))), h) := by
  rw [zc_135, zs_135_0, zs_135_1, if_neg (nI_pos (by omega)), zs_135_4, zs_135_5, zs_135_6, h1, zf_5_0, zs_135_9, h2, zaln_k (by decide), show (zHL g).length = 8 from rfl, zs_135_10, if_pos (nI_lt hn (by decide)), zs_135_13, zs_135_14, h1, zf_5_0, zs_135_17, zs_135_18, h2, zaelv (zHL_k nx hn) (by omega), zs_135_19, zs_135_23]
theorem d_132 {h : zH} {g s : Nat} {S : yS} {H : List yS} (hg : zHis h g H) (hs : zSta h s S) (hd : g + 34 ≤ s ∨ s + 4 ≤ g) (h5 : zK6 h S.1) (h6 : ∀ a, a ∈ S.1 → a < g ∨ g + 34 ≤ a) : ∃ h', zcall zP sv (d + 4) 132 [.ref g, .ref s] h = some (.inl none, h') ∧ zHis h' g ((S :: H).take 8) ∧ zfr g (g + 34) h h' := by
  have hrc : ∀ X, zrc (h.1 g) 5 X = X := fun X => zHis_rc hg
  obtain ⟨nx, p0, p1, p2, p3, p4, p5⟩ := hg
  obtain ⟨R, hR⟩ := p3 nx p0
  obtain ⟨h1, e1, w1, f1⟩ := d_180 (sv := sv) (d := d) hR hs (by omega) h5 (fun a ha => by have := h6 a ha; omega)
  have g1 : h1.1 g = (5, [.ref (g + 1), .int (nI nx), .int (nI H.length)]) := by rw [f1.1 g (by omega), p1]
  have g2 : h1.1 (g + 1) = (26, zHL g) := by rw [f1.1 (g + 1) (by omega), p2]
  have hlen : ((S :: H).take 8).length = min (H.length + 1) 8 := by rw [List.length_take, List.length_cons, Nat.min_comm]
  have emin : (if nI 8 < nI (H.length + 1) then nI 8 else nI (H.length + 1)) = nI ((S :: H).take 8).length := by
    rw [hlen]
    by_cases hc : 8 < H.length + 1
    · rw [if_pos (nI_lt hc (by omega)), Nat.min_eq_right (by omega)]
    · rw [if_neg (nI_nlt (by omega) (by decide)), Nat.min_eq_left (by omega)]
  have f2 : zfr g (g + 1) h1 (zup h1 g (5, [.ref (g + 1), .int (nI ((nx + 1) % 8)), .int (nI ((S :: H).take 8).length)])) := zfr_up (by omega) (by omega)
  refine ⟨zup h1 g (5, [.ref (g + 1), .int (nI ((nx + 1) % 8)), .int (nI ((S :: H).take 8).length)]), ?_, ⟨(nx + 1) % 8, by omega, zup_at, by rw [zup_ne (by omega), g2], fun k hk => ?_, fun j T hj => ?_, by rw [hlen]; omega⟩, zfr_tr (zfr_mono f1 (by omega) (by omega)) (zfr_mono f2 (by omega) (by omega))⟩
  · rw [zc_132, zs_132_0, zs_132_1, zs_132_2, p1, zf_5_1, zs_132_5, hrc, d_135 p1 p2 p0, zbk_v, zts_s, zs_132_8 znw_u, zs_132_9, zs_132_10, zs_132_13, zs_132_14, zs_132_15, zSta_rc hR, e1, zbk_v, zts_n, zs_132_18, zs_132_19, zs_132_20, g1, zf_5_1, zs_132_23, zs_132_24, zs_132_25, zs_132_27, nI_1', nI_mod8 _ (by omega), zs_132_28, g1, zp_5_1, zs_132_31, zs_132_32, zs_132_33, zup_at, zf_5_2, zs_132_36, zs_132_37, zs_132_38, zs_132_40, nI_1', emin, zs_132_43, zup_at, zp_5_2, zup_up, zs_132_46]
  · by_cases hk2 : k = nx
    · subst hk2
      exact ⟨S, zSta_fr w1 f2 (by omega)⟩
    · obtain ⟨T, hT⟩ := p3 k hk
      exact ⟨T, zSta_fr (zSta_fr hT f1 (by omega)) f2 (by omega)⟩
  · have hj8 : j < 8 := by
      have := (List.getElem?_eq_some_iff.mp hj).1
      rw [hlen] at this
      omega
    rw [List.getElem?_take_of_lt hj8] at hj
    cases j with
    | zero =>
      injection hj with hj
      subst hj
      rw [show ((nx + 1) % 8 + 7 - 0) % 8 = nx by omega]
      exact zSta_fr w1 f2 (by omega)
    | succ j =>
      rw [List.getElem?_cons_succ] at hj
      have := p4 j T hj
      rw [show ((nx + 1) % 8 + 7 - (j + 1)) % 8 = (nx + 7 - j) % 8 by omega]
      exact zSta_fr (zSta_fr this f1 (by omega)) f2 (by omega)
theorem d_133 {h : zH} {g s : Nat} {R S : yS} {H : List yS} (hg : zHis h g (S :: H)) (hs : zSta h s R) (hd : g + 34 ≤ s ∨ s + 4 ≤ g) (h5 : zK6 h S.1) (h6 : ∀ a, a ∈ S.1 → a < g ∨ g + 34 ≤ a) (h7 : ∀ a, a ∈ S.1 → a < s ∨ s + 4 ≤ a) : ∃ h', zcall zP sv (d + 4) 133 [.ref g, .ref s] h = some (.inl none, h') ∧ zHis h' g H ∧ zSta h' s S ∧ (∀ q, (q < g ∨ g + 1 ≤ q) → (q < s ∨ s + 4 ≤ q) → h'.1 q = h.1 q) ∧ h'.2 = h.2 := by
  obtain ⟨nx, p0, p1, p2, p3, p4, p5⟩ := hg
  have hS := p4 0 S rfl
  have hl : (S :: H).length = H.length + 1 := rfl
  rw [hl] at p1 p5
  have hsb : nI (H.length + 1) - nI 1 = nI H.length := by rw [← nI_add, Int32.add_sub_cancel]
  have emax : (if nI H.length < 0 then (0 : Int32) else nI H.length) = nI H.length := if_neg (nI_pos (by omega))
  have f1 : zfr g (g + 1) h (zup h g (5, [.ref (g + 1), .int (nI ((nx + 7) % 8)), .int (nI H.length)])) := zfr_up (by omega) (by omega)
  have c0 : (zup h g (5, [.ref (g + 1), .int (nI ((nx + 7) % 8)), .int (nI H.length)])).1 g = (5, [.ref (g + 1), .int (nI ((nx + 7) % 8)), .int (nI H.length)]) := zup_at
  have c1 : (zup h g (5, [.ref (g + 1), .int (nI ((nx + 7) % 8)), .int (nI H.length)])).1 (g + 1) = (26, zHL g) := by rw [zup_ne (by omega), p2]
  have c2 := zSta_fr hs f1 (by omega)
  have c3 := zSta_fr hS f1 (by omega)
  have c5 := zK6_fr h5 f1 (fun a ha => by have := h6 a ha; omega)
  obtain ⟨h1, e1, w1, f2⟩ := d_180 (sv := sv) (d := d) c2 c3 (by omega) c5 h7
  rw [show nx + 7 - 0 = nx + 7 by omega] at e1
  refine ⟨h1, ?_, ⟨(nx + 7) % 8, by omega, by rw [f2.1 g (by omega), c0], by rw [f2.1 (g + 1) (by omega), c1], fun k hk => ?_, fun j T hj => ?_, by omega⟩, w1, fun q q1 q2 => (f2.1 q q2).trans (f1.1 q q1), f2.2.trans f1.2⟩
  · have hrc : ∀ X, zrc ((zup h g (5, [.ref (g + 1), .int (nI ((nx + 7) % 8)), .int (nI H.length)])).1 g) 5 X = X := fun X => by rw [c0]; exact zrc_k
    rw [zc_133, zs_133_0, zs_133_1, zs_133_2, p1, zf_5_1, zs_133_5, zs_133_7, zs_133_8, zs_133_9, nI_78 p0, zs_133_10, zs_133_12, nI_mod8 _ (by omega), zs_133_13, p1, zp_5_1, zs_133_16, zs_133_17, zs_133_18, zup_at, zf_5_2, zs_133_21, zs_133_22, hsb, zs_133_23, zs_133_24, emax, zs_133_27, zup_at, zp_5_2, zup_up, zs_133_30, zs_133_31, zs_133_32, c0, zf_5_1, zs_133_35, hrc, d_135 c0 c1 (by omega), zbk_v, zts_s, zs_133_38 znw_u, zs_133_39, zs_133_40, zs_133_43, zs_133_44, zs_133_45, zSta_rc c2, e1, zbk_v, zts_n, zs_133_48]
  · obtain ⟨T, hT⟩ := p3 k hk
    exact ⟨T, zSta_fr (zSta_fr hT f1 (by omega)) f2 (by omega)⟩
  · have hj8 := (List.getElem?_eq_some_iff.mp hj).1
    have := p4 (j + 1) T hj
    rw [show ((nx + 7) % 8 + 7 - j) % 8 = (nx + 7 - (j + 1)) % 8 by omega]
    exact zSta_fr (zSta_fr this f1 (by omega)) f2 (by omega)
end ZDL
