/-- one range of addresses changed alone, nothing made -/
def zfr (lo hi : Nat) (h h' : zH) : Prop := (∀ q, q < lo ∨ hi ≤ q → h'.1 q = h.1 q) ∧ h'.2 = h.2
theorem zfr_rfl {lo hi : Nat} {h : zH} : zfr lo hi h h := ⟨fun _ _ => rfl, rfl⟩
theorem zfr_up {lo hi a : Nat} {h : zH} {c : zC} (h1 : lo ≤ a) (h2 : a < hi) : zfr lo hi h (zup h a c) := ⟨fun q hq => zup_ne (by omega), rfl⟩
theorem zfr_tr {lo hi : Nat} {h h' h'' : zH} (h1 : zfr lo hi h h') (h2 : zfr lo hi h' h'') : zfr lo hi h h'' := ⟨fun q hq => (h2.1 q hq).trans (h1.1 q hq), h2.2.trans h1.2⟩
theorem zfr_mono {lo hi lo' hi' : Nat} {h h' : zH} (h1 : zfr lo hi h h') (ha : lo' ≤ lo) (hb : hi ≤ hi') : zfr lo' hi' h h' := ⟨fun q hq => h1.1 q (by omega), h1.2⟩
theorem zfr_at {lo hi q : Nat} {h h' : zH} (h1 : zfr lo hi h h') (hq : q < lo ∨ hi ≤ q) : h'.1 q = h.1 q := h1.1 q hq
/-- a Row's get and set -/
def yg (A : List Int32) (x : Int32) : Int32 := if x < 0 then 0 else A.getD x.toNatClampNeg 0
def ys (A : List Int32) (x y : Int32) : List Int32 := if x < 0 then A else A.set x.toNatClampNeg y
def zRow (h : zH) (r : Nat) (A : List Int32) : Prop := h.1 r = (4, [.ref (r + 1)]) ∧ h.1 (r + 1) = (20, A.map Value.int) ∧ A.length < 2 ^ 31
theorem yg_k {A : List Int32} {i : Nat} (hi : i < 2 ^ 31) : yg A (nI i) = A.getD i 0 := by
  unfold yg
  rw [if_neg (nI_pos hi), nI_clamp hi]
theorem yg_n {A : List Int32} : yg A (-1) = 0 := by
  unfold yg
  rw [if_pos (by decide +kernel)]
theorem yg_e {A : List Int32} {i : Nat} {v : Int32} (hi : i < 2 ^ 31) (hv : A[i]? = some v) : yg A (nI i) = v := by
  rw [yg_k hi, List.getD_eq_getElem?_getD, hv]; rfl
theorem ys_k {A : List Int32} {i : Nat} {y : Int32} (hi : i < 2 ^ 31) : ys A (nI i) y = A.set i y := by
  unfold ys
  rw [if_neg (nI_pos hi), nI_clamp hi]
theorem ys_len {A : List Int32} {x y : Int32} : (ys A x y).length = A.length := by
  unfold ys
  by_cases hx : x < 0
  · rw [if_pos hx]
  · rw [if_neg hx, List.length_set]
theorem zRow_fr {h h' : zH} {lo hi r : Nat} {A : List Int32} (hr : zRow h r A) (hf : zfr lo hi h h') (hq : r + 2 ≤ lo ∨ hi ≤ r) : zRow h' r A := ⟨by rw [hf.1 r (by omega), hr.1], by rw [hf.1 (r + 1) (by omega), hr.2.1], hr.2.2⟩
theorem zRow_up {h : zH} {a r : Nat} {c : zC} {A : List Int32} (hr : zRow h r A) (h1 : a ≠ r) (h2 : a ≠ r + 1) : zRow (zup h a c) r A := ⟨by rw [zup_ne (Ne.symm h1), hr.1], by rw [zup_ne (Ne.symm h2), hr.2.1], hr.2.2⟩
theorem zRow_new {h : zH} {r : Nat} {A B : List Int32} (hr : zRow h r A) (hB : B.length = A.length) : zRow (zup h (r + 1) (20, B.map Value.int)) r B := ⟨by rw [zup_ne (by omega), hr.1], zup_at, by rw [hB]; exact hr.2.2⟩
theorem zRow_rc {h : zH} {r : Nat} {A : List Int32} {X : zR} (hr : zRow h r A) : zrc (h.1 r) 4 X = X := by rw [hr.1, zrc_4]
theorem zaset_m {A : List Int32} {x y : Int32} {K : zC → zR} (h0 : ¬ x < 0) (hx : x < nI A.length) (hl : A.length < 2 ^ 31) : zaset (20, A.map Value.int) 20 x (.int y) K = K (20, (A.set x.toNatClampNeg y).map Value.int) := by
  obtain ⟨i, hi, rfl⟩ := nI_of h0
  have := (nI_ltI hi hl).mp hx
  rw [zaset_k (by rw [List.length_map]; exact this) hi, nI_clamp hi, List.map_set]
theorem zael_m {A : List Int32} {x : Int32} {K : Value → zR} (h0 : ¬ x < 0) (hx : x < nI A.length) (hl : A.length < 2 ^ 31) : zael (20, A.map Value.int) 20 x K = K (.int (A.getD x.toNatClampNeg 0)) := by
  obtain ⟨i, hi, rfl⟩ := nI_of h0
  have h2 := (nI_ltI hi hl).mp hx
  rw [zael_k (v := .int (A.getD i 0)) (by rw [List.getElem?_map, List.getD_eq_getElem?_getD, List.getElem?_eq_getElem h2]; rfl) hi, nI_clamp hi]
section ZDA
variable {sv : Nat → Value} {d : Nat} {h : zH}
theorem d_165 {r : Nat} {A : List Int32} {x : Int32} (hr : zRow h r A) : zcall zP sv (d + 1) 165 [.ref r, .int x] h = some (.inl (some (.int (yg A x))), h) := by
  unfold yg
  rw [zc_165, zs_165_0, zs_165_1]
  by_cases h0 : x < 0
  · rw [if_pos h0, if_pos h0, zs_165_22, zs_165_23]
  · rw [if_neg h0, if_neg h0, zs_165_4, zs_165_5, zs_165_6, hr.1, zf_4_0, zs_165_9, hr.2.1, zaln_k (by decide), List.length_map, zs_165_10]
    by_cases h1 : x < nI A.length
    · rw [if_pos h1, zs_165_13, zs_165_14, hr.1, zf_4_0, zs_165_17, zs_165_18, hr.2.1, zael_m h0 h1 hr.2.2, zs_165_19, zs_165_23]
    · obtain ⟨i, hi, rfl⟩ := nI_of h0
      have h2 : ¬ i < A.length := fun h3 => h1 ((nI_ltI hi hr.2.2).mpr h3)
      rw [if_neg h1, zs_165_22, zs_165_23, nI_clamp hi, List.getD_eq_getElem?_getD, List.getElem?_eq_none (by omega)]
      rfl
theorem d_166 {r : Nat} {A : List Int32} {x y : Int32} (hr : zRow h r A) : zcall zP sv (d + 1) 166 [.ref r, .int x, .int y] h = some (.inl none, zup h (r + 1) (20, (ys A x y).map Value.int)) := by
  unfold ys
  rw [zc_166, zs_166_0, zs_166_1]
  by_cases h0 : x < 0
  · rw [if_pos h0, if_pos h0, zs_166_20, zup_self hr.2.1]
  · rw [if_neg h0, if_neg h0, zs_166_4, zs_166_5, zs_166_6, hr.1, zf_4_0, zs_166_9, hr.2.1, zaln_k (by decide), List.length_map, zs_166_10]
    by_cases h1 : x < nI A.length
    · rw [if_pos h1, zs_166_13, zs_166_14, hr.1, zf_4_0, zs_166_17, zs_166_18, zs_166_19, hr.2.1, zaset_m h0 h1 hr.2.2, zs_166_20]
    · obtain ⟨i, hi, rfl⟩ := nI_of h0
      have h2 : ¬ i < A.length := fun h3 => h1 ((nI_ltI hi hr.2.2).mpr h3)
      rw [if_neg h1, zs_166_20, nI_clamp hi, List.set_eq_of_length_le (by omega), zup_self hr.2.1]
end ZDA
/-- a Tree: its object at t, its four rows behind it; ns: its nodes (kind, number, left, right) -/
abbrev yN : Type := Int32 × Int32 × Int32 × Int32
def zTc (t m n : Nat) : zC := (6, [.ref (t + 1), .ref (t + 3), .ref (t + 5), .ref (t + 7), .int (nI m), .int (nI n)])
def zTre (h : zH) (t m : Nat) (ns : List yN) : Prop := ∃ K N L R : List Int32, h.1 t = zTc t m ns.length ∧ (zRow h (t + 1) K ∧ zRow h (t + 3) N ∧ zRow h (t + 5) L ∧ zRow h (t + 7) R) ∧ (K.length = m ∧ N.length = m ∧ L.length = m ∧ R.length = m ∧ ns.length ≤ m) ∧ K.take ns.length = ns.map (fun q => q.1) ∧ N.take ns.length = ns.map (fun q => q.2.1) ∧ L.take ns.length = ns.map (fun q => q.2.2.1) ∧ R.take ns.length = ns.map (fun q => q.2.2.2)
theorem ytk_at {K P : List Int32} {n i : Nat} {v : Int32} (hk : K.take n = P) (hv : P[i]? = some v) : K[i]? = some v := by
  have hi := (List.getElem?_eq_some_iff.mp hv).1
  have hl : i < n := by rw [← hk, List.length_take] at hi; omega
  rw [← hk, List.getElem?_take_of_lt hl] at hv
  exact hv
theorem ytk_set {K P : List Int32} {n : Nat} {k : Int32} (hk : K.take n = P) (hn : n < K.length) : (K.set n k).take (n + 1) = P ++ [k] := by
  rw [List.take_add_one, List.take_set_of_le (Nat.le_refl _), hk, List.getElem?_set_self hn]
  rfl
theorem zTre_lt {h : zH} {t m : Nat} {ns : List yN} (ht : zTre h t m ns) : m < 2 ^ 31 ∧ ns.length ≤ m := by
  obtain ⟨K, N, L, R, _, hr, hl, _⟩ := ht
  exact ⟨by rw [← hl.1]; exact hr.1.2.2, hl.2.2.2.2⟩
theorem zTre_rc {h : zH} {t m : Nat} {ns : List yN} {X : zR} (ht : zTre h t m ns) : zrc (h.1 t) 6 X = X := by
  obtain ⟨K, N, L, R, h0, _⟩ := ht
  rw [h0]
  exact zrc_k
theorem zTre_fr {h h' : zH} {lo hi t m : Nat} {ns : List yN} (ht : zTre h t m ns) (hf : zfr lo hi h h') (hq : t + 9 ≤ lo ∨ hi ≤ t) : zTre h' t m ns := by
  obtain ⟨K, N, L, R, h0, ⟨h1, h2, h3, h4⟩, h5⟩ := ht
  exact ⟨K, N, L, R, by rw [hf.1 t (by omega), h0], ⟨zRow_fr h1 hf (by omega), zRow_fr h2 hf (by omega), zRow_fr h3 hf (by omega), zRow_fr h4 hf (by omega)⟩, h5⟩
section ZDB
variable {sv : Nat → Value} {d : Nat} {h : zH} {t m : Nat} {ns : List yN}
theorem d_182 (ht : zTre h t m ns) : zcall zP sv (d + 1) 182 [.ref t] h = some (.inl (some (.int (nI ns.length))), h) := by
  obtain ⟨K, N, L, R, h0, _⟩ := ht
  rw [zc_182, zs_182_0, zs_182_1, h0, zTc, zf_6_5, zs_182_4]
theorem d_183 (ht : zTre h t m ns) : zcall zP sv (d + 1) 183 [.ref t] h = some (.inl (some (.int (nI ns.length - nI 1))), h) := by
  obtain ⟨K, N, L, R, h0, _⟩ := ht
  rw [zc_183, zs_183_0, zs_183_1, h0, zTc, zf_6_5, zs_183_4, zs_183_5, zs_183_6]
theorem d_184 {i : Nat} {nd : yN} (ht : zTre h t m ns) (hi : ns[i]? = some nd) : zcall zP sv (d + 2) 184 [.ref t, .int (nI i)] h = some (.inl (some (.int nd.1)), h) := by
  have hm := zTre_lt ht
  have hl := (List.getElem?_eq_some_iff.mp hi).1
  obtain ⟨K, N, L, R, h0, hr, _, h1, _⟩ := ht
  have e1 := ytk_at h1 (by rw [List.getElem?_map, hi]; rfl)
  rw [zc_184, zs_184_0, zs_184_1, h0, zTc, zf_6_0, zs_184_4, zs_184_5, zRow_rc hr.1, d_165 hr.1, zbk_v, zts_s, zs_184_8, yg_e (by omega) e1]
theorem d_185 {i : Nat} {nd : yN} (ht : zTre h t m ns) (hi : ns[i]? = some nd) : zcall zP sv (d + 2) 185 [.ref t, .int (nI i)] h = some (.inl (some (.int nd.2.1)), h) := by
  have hm := zTre_lt ht
  have hl := (List.getElem?_eq_some_iff.mp hi).1
  obtain ⟨K, N, L, R, h0, hr, _, _, h1, _⟩ := ht
  have e1 := ytk_at h1 (by rw [List.getElem?_map, hi]; rfl)
  rw [zc_185, zs_185_0, zs_185_1, h0, zTc, zf_6_1, zs_185_4, zs_185_5, zRow_rc hr.2.1, d_165 hr.2.1, zbk_v, zts_s, zs_185_8, yg_e (by omega) e1]
theorem d_186 {i : Nat} {nd : yN} (ht : zTre h t m ns) (hi : ns[i]? = some nd) : zcall zP sv (d + 2) 186 [.ref t, .int (nI i)] h = some (.inl (some (.int nd.2.2.1)), h) := by
  have hm := zTre_lt ht
  have hl := (List.getElem?_eq_some_iff.mp hi).1
  obtain ⟨K, N, L, R, h0, hr, _, _, _, h1, _⟩ := ht
  have e1 := ytk_at h1 (by rw [List.getElem?_map, hi]; rfl)
  rw [zc_186, zs_186_0, zs_186_1, h0, zTc, zf_6_2, zs_186_4, zs_186_5, zRow_rc hr.2.2.1, d_165 hr.2.2.1, zbk_v, zts_s, zs_186_8, yg_e (by omega) e1]
theorem d_187 {i : Nat} {nd : yN} (ht : zTre h t m ns) (hi : ns[i]? = some nd) : zcall zP sv (d + 2) 187 [.ref t, .int (nI i)] h = some (.inl (some (.int nd.2.2.2)), h) := by
  have hm := zTre_lt ht
  have hl := (List.getElem?_eq_some_iff.mp hi).1
  obtain ⟨K, N, L, R, h0, hr, _, _, _, _, h1⟩ := ht
  have e1 := ytk_at h1 (by rw [List.getElem?_map, hi]; rfl)
  rw [zc_187, zs_187_0, zs_187_1, h0, zTc, zf_6_3, zs_187_4, zs_187_5, zRow_rc hr.2.2.2, d_165 hr.2.2.2, zbk_v, zts_s, zs_187_8, yg_e (by omega) e1]
theorem d_190 (ht : zTre h t m ns) : ∃ h', zcall zP sv (d + 1) 190 [.ref t] h = some (.inl none, h') ∧ zTre h' t m [] ∧ zfr t (t + 9) h h' := by
  obtain ⟨K, N, L, R, h0, ⟨h1, h2, h3, h4⟩, h5, _⟩ := ht
  refine ⟨zup h t (zTc t m 0), ?_, ⟨K, N, L, R, zup_at, ⟨zRow_up h1 (by omega) (by omega), zRow_up h2 (by omega) (by omega), zRow_up h3 (by omega) (by omega), zRow_up h4 (by omega) (by omega)⟩, ⟨h5.1, h5.2.1, h5.2.2.1, h5.2.2.2.1, Nat.zero_le _⟩, rfl, rfl, rfl, rfl⟩, zfr_up (by omega) (by omega)⟩
  rw [zc_190, zs_190_0, zs_190_1, zs_190_2, h0, zTc, zp_6_5, zs_190_5, zTc, nI_0]
theorem d_191f {k n l r : Int32} (ht : zTre h t m ns) (hn : ns.length = m) : zcall zP sv (d + 2) 191 [.ref t, .int k, .int n, .int l, .int r] h = some (.inl (some (.int (-1))), h) := by
  have hm := zTre_lt ht
  obtain ⟨K, N, L, R, h0, _⟩ := ht
  rw [zc_191, zs_191_0, zs_191_1, h0, zTc, zf_6_5, zs_191_4, zs_191_5, h0, zTc, zf_6_4, zs_191_8, if_neg (nI_nlt (by omega) (by omega)), zs_191_11, zs_191_12]
theorem d_191 {k n l r : Int32} (ht : zTre h t m ns) (hn : ns.length < m) : ∃ h', zcall zP sv (d + 2) 191 [.ref t, .int k, .int n, .int l, .int r] h = some (.inl (some (.int (nI ns.length))), h') ∧ zTre h' t m (ns ++ [(k, n, l, r)]) ∧ zfr t (t + 9) h h' := by
  have hm := zTre_lt ht
  obtain ⟨K, N, L, R, h0, ⟨h1, h2, h3, h4⟩, h5, t1, t2, t3, t4⟩ := ht
  have hn2 : ns.length < 2 ^ 31 := by omega
  have b1 := zRow_new h1 (B := ys K (nI ns.length) k) ys_len
  have b2 := zRow_up h2 (a := t + 1 + 1) (c := (20, (ys K (nI ns.length) k).map Value.int)) (by omega) (by omega)
  have b3 := zRow_up h3 (a := t + 1 + 1) (c := (20, (ys K (nI ns.length) k).map Value.int)) (by omega) (by omega)
  have b4 := zRow_up h4 (a := t + 1 + 1) (c := (20, (ys K (nI ns.length) k).map Value.int)) (by omega) (by omega)
  have f1 : zfr t (t + 9) h (zup h (t + 1 + 1) (20, (ys K (nI ns.length) k).map Value.int)) := zfr_up (by omega) (by omega)
  have g1 : (zup h (t + 1 + 1) (20, (ys K (nI ns.length) k).map Value.int)).1 t = zTc t m ns.length := by rw [zup_ne (by omega), h0]
  have e1 := d_166 (sv := sv) (d := d) (x := nI ns.length) (y := k) h1
  generalize zup h (t + 1 + 1) (20, (ys K (nI ns.length) k).map Value.int) = ha at *
  have e2 := d_166 (sv := sv) (d := d) (x := nI ns.length) (y := n) b2
  have c1 := zRow_up b1 (a := t + 3 + 1) (c := (20, (ys N (nI ns.length) n).map Value.int)) (by omega) (by omega)
  have c2 := zRow_new b2 (B := ys N (nI ns.length) n) ys_len
  have c3 := zRow_up b3 (a := t + 3 + 1) (c := (20, (ys N (nI ns.length) n).map Value.int)) (by omega) (by omega)
  have c4 := zRow_up b4 (a := t + 3 + 1) (c := (20, (ys N (nI ns.length) n).map Value.int)) (by omega) (by omega)
  have f2 := zfr_tr f1 (zfr_up (c := (20, (ys N (nI ns.length) n).map Value.int)) (show t ≤ t + 3 + 1 by omega) (by omega))
  have g2 : (zup ha (t + 3 + 1) (20, (ys N (nI ns.length) n).map Value.int)).1 t = zTc t m ns.length := by rw [zup_ne (by omega), g1]
  generalize zup ha (t + 3 + 1) (20, (ys N (nI ns.length) n).map Value.int) = hb at *
  have e3 := d_166 (sv := sv) (d := d) (x := nI ns.length) (y := l) c3
  have i1 := zRow_up c1 (a := t + 5 + 1) (c := (20, (ys L (nI ns.length) l).map Value.int)) (by omega) (by omega)
  have i2 := zRow_up c2 (a := t + 5 + 1) (c := (20, (ys L (nI ns.length) l).map Value.int)) (by omega) (by omega)
  have i3 := zRow_new c3 (B := ys L (nI ns.length) l) ys_len
  have i4 := zRow_up c4 (a := t + 5 + 1) (c := (20, (ys L (nI ns.length) l).map Value.int)) (by omega) (by omega)
  have f3 := zfr_tr f2 (zfr_up (c := (20, (ys L (nI ns.length) l).map Value.int)) (show t ≤ t + 5 + 1 by omega) (by omega))
  have g3 : (zup hb (t + 5 + 1) (20, (ys L (nI ns.length) l).map Value.int)).1 t = zTc t m ns.length := by rw [zup_ne (by omega), g2]
  generalize zup hb (t + 5 + 1) (20, (ys L (nI ns.length) l).map Value.int) = hc at *
  have e4 := d_166 (sv := sv) (d := d) (x := nI ns.length) (y := r) i4
  have j1 := zRow_up i1 (a := t + 7 + 1) (c := (20, (ys R (nI ns.length) r).map Value.int)) (by omega) (by omega)
  have j2 := zRow_up i2 (a := t + 7 + 1) (c := (20, (ys R (nI ns.length) r).map Value.int)) (by omega) (by omega)
  have j3 := zRow_up i3 (a := t + 7 + 1) (c := (20, (ys R (nI ns.length) r).map Value.int)) (by omega) (by omega)
  have j4 := zRow_new i4 (B := ys R (nI ns.length) r) ys_len
  have f4 := zfr_tr f3 (zfr_up (c := (20, (ys R (nI ns.length) r).map Value.int)) (show t ≤ t + 7 + 1 by omega) (by omega))
  have g4 : (zup hc (t + 7 + 1) (20, (ys R (nI ns.length) r).map Value.int)).1 t = zTc t m ns.length := by rw [zup_ne (by omega), g3]
  generalize zup hc (t + 7 + 1) (20, (ys R (nI ns.length) r).map Value.int) = hd at *
  have hlen : (ns ++ [(k, n, l, r)]).length = ns.length + 1 := by rw [List.length_append]; rfl
  refine ⟨zup hd t (zTc t m (ns ++ [(k, n, l, r)]).length), ?_, ⟨ys K (nI ns.length) k, ys N (nI ns.length) n, ys L (nI ns.length) l, ys R (nI ns.length) r, zup_at, ⟨zRow_up j1 (by omega) (by omega), zRow_up j2 (by omega) (by omega), zRow_up j3 (by omega) (by omega), zRow_up j4 (by omega) (by omega)⟩, ⟨by rw [ys_len]; omega, by rw [ys_len]; omega, by rw [ys_len]; omega, by rw [ys_len]; omega, by rw [hlen]; omega⟩, ?_, ?_, ?_, ?_⟩, zfr_tr f4 (zfr_up (by omega) (by omega))⟩
  · rw [zc_191, zs_191_0, zs_191_1, h0, zTc, zf_6_5, zs_191_4, zs_191_5, h0, zTc, zf_6_4, zs_191_8, if_pos (nI_lt hn (by omega)), zs_191_13, zs_191_14, h0, zTc, zf_6_0, zs_191_17, zs_191_18, h0, zTc, zf_6_5, zs_191_21, zs_191_22, zRow_rc h1, e1, zbk_v, zts_n, zs_191_25, zs_191_26, g1, zTc, zf_6_1, zs_191_29, zs_191_30, g1, zTc, zf_6_5, zs_191_33, zs_191_34, zRow_rc b2, e2, zbk_v, zts_n, zs_191_37, zs_191_38, g2, zTc, zf_6_2, zs_191_41, zs_191_42, g2, zTc, zf_6_5, zs_191_45, zs_191_46, zRow_rc c3, e3, zbk_v, zts_n, zs_191_49, zs_191_50, g3, zTc, zf_6_3, zs_191_53, zs_191_54, g3, zTc, zf_6_5, zs_191_57, zs_191_59, zRow_rc i4, e4, zbk_v, zts_n, zs_191_62, zs_191_63, zs_191_64, g4, zTc, zf_6_5, zs_191_67, zs_191_68, zs_191_69, g4, zTc, zp_6_5, zs_191_72, zs_191_73, zup_at, zf_6_5, zs_191_76, zs_191_77, zs_191_78, nI_1', hlen, zTc, ← nI_add, Int32.add_sub_cancel]
  · rw [hlen, ys_k hn2, ytk_set t1 (by omega), List.map_append]; rfl
  · rw [hlen, ys_k hn2, ytk_set t2 (by omega), List.map_append]; rfl
  · rw [hlen, ys_k hn2, ytk_set t3 (by omega), List.map_append]; rfl
  · rw [hlen, ys_k hn2, ytk_set t4 (by omega), List.map_append]; rfl
end ZDB

theorem zty_5x {c : Prop} [Decidable c] : zty 5 (.int (if c then nI 1 else 0)) = true := by
  by_cases h : c
  · rw [if_pos h]; rfl
  · rw [if_neg h]; rfl
section ZDC
variable {sv : Nat → Value} {d : Nat} {h : zH} {t m : Nat} {ns : List yN}
theorem d_184n (ht : zTre h t m ns) : zcall zP sv (d + 2) 184 [.ref t, .int (-1)] h = some (.inl (some (.int 0)), h) := by
  obtain ⟨K, N, L, R, h0, hr, _⟩ := ht
  rw [zc_184, zs_184_0, zs_184_1, h0, zTc, zf_6_0, zs_184_4, zs_184_5, zRow_rc hr.1, d_165 hr.1, zbk_v, zts_s, zs_184_8, yg_n]
theorem d_188 {i : Nat} {c : Int32} {nd : yN} (ht : zTre h t m ns) (hi : ns[i]? = some nd) : zcall zP sv (d + 3) 188 [.ref t, .int (nI i), .int c] h = some (.inl (some (.int (if nd.1 = nI 118 ∧ nd.2.1 = c then nI 1 else 0))), h) := by
  rw [zc_188, zs_188_0, zs_188_1, zs_188_2, zTre_rc ht, d_184 ht hi, zbk_v, zts_s, zs_188_5, zs_188_7]
  by_cases h1 : nd.1 = nI 118
  · rw [if_pos h1, zs_188_10, zs_188_11, zs_188_12, zTre_rc ht, d_185 ht hi, zbk_v, zts_s, zs_188_15, zs_188_16]
    by_cases h2 : nd.2.1 = c
    · rw [if_pos h2, zs_188_19, zs_188_20, zs_188_24, if_pos ⟨h1, h2⟩, zty_51, zgd_t]
    · rw [if_neg h2, zs_188_23, zs_188_24, if_neg (fun h3 => h2 h3.2), zty_50, zgd_t]
  · rw [if_neg h1, zs_188_23, zs_188_24, if_neg (fun h3 => h1 h3.1), zty_50, zgd_t]
theorem d_189 {i : Nat} {c : Int32} {nd : yN} (ht : zTre h t m ns) (hi : ns[i]? = some nd) : zcall zP sv (d + 3) 189 [.ref t, .int (nI i), .int c] h = some (.inl (some (.int (if nd.1 = nI 99 ∧ nd.2.1 = c then nI 1 else 0))), h) := by
  rw [zc_189, zs_189_0, zs_189_1, zs_189_2, zTre_rc ht, d_184 ht hi, zbk_v, zts_s, zs_189_5, zs_189_7]
  by_cases h1 : nd.1 = nI 99
  · rw [if_pos h1, zs_189_10, zs_189_11, zs_189_12, zTre_rc ht, d_185 ht hi, zbk_v, zts_s, zs_189_15, zs_189_16]
    by_cases h2 : nd.2.1 = c
    · rw [if_pos h2, zs_189_19, zs_189_20, zs_189_24, if_pos ⟨h1, h2⟩, zty_51, zgd_t]
    · rw [if_neg h2, zs_189_23, zs_189_24, if_neg (fun h3 => h2 h3.2), zty_50, zgd_t]
  · rw [if_neg h1, zs_189_23, zs_189_24, if_neg (fun h3 => h1 h3.1), zty_50, zgd_t]
theorem d_192 {x : Int32} (ht : zTre h t m ns) (hn : ns.length < m) : ∃ h', zcall zP sv (d + 3) 192 [.ref t, .int x] h = some (.inl (some (.int (nI ns.length))), h') ∧ zTre h' t m (ns ++ [(nI 99, x, -1, -1)]) ∧ zfr t (t + 9) h h' := by
  obtain ⟨h', e, w⟩ := d_191 (sv := sv) (d := d) (k := nI 99) (n := x) (l := -1) (r := -1) ht hn
  exact ⟨h', by rw [zc_192, zs_192_0, zs_192_1, zs_192_3, zs_192_4, zs_192_5, zs_192_6, zTre_rc ht, e, zbk_v, zts_s, zs_192_9], w⟩
theorem d_192f {x : Int32} (ht : zTre h t m ns) (hn : ns.length = m) : zcall zP sv (d + 3) 192 [.ref t, .int x] h = some (.inl (some (.int (-1))), h) := by
  rw [zc_192, zs_192_0, zs_192_1, zs_192_3, zs_192_4, zs_192_5, zs_192_6, zTre_rc ht, d_191f ht hn, zbk_v, zts_s, zs_192_9]
theorem d_193 {x : Int32} (ht : zTre h t m ns) (hn : ns.length < m) : ∃ h', zcall zP sv (d + 3) 193 [.ref t, .int x] h = some (.inl (some (.int (nI ns.length))), h') ∧ zTre h' t m (ns ++ [(nI 110, 0, x, -1)]) ∧ zfr t (t + 9) h h' := by
  obtain ⟨h', e, w⟩ := d_191 (sv := sv) (d := d) (k := nI 110) (n := 0) (l := x) (r := -1) ht hn
  exact ⟨h', by rw [zc_193, zs_193_0, zs_193_1, zs_193_3, zs_193_4, zs_193_5, zs_193_6, zTre_rc ht, e, zbk_v, zts_s, zs_193_9], w⟩
theorem d_193f {x : Int32} (ht : zTre h t m ns) (hn : ns.length = m) : zcall zP sv (d + 3) 193 [.ref t, .int x] h = some (.inl (some (.int (-1))), h) := by
  rw [zc_193, zs_193_0, zs_193_1, zs_193_3, zs_193_4, zs_193_5, zs_193_6, zTre_rc ht, d_191f ht hn, zbk_v, zts_s, zs_193_9]
theorem d_194 {k x y : Int32} (ht : zTre h t m ns) (hn : ns.length < m) : ∃ h', zcall zP sv (d + 3) 194 [.ref t, .int k, .int x, .int y] h = some (.inl (some (.int (nI ns.length))), h') ∧ zTre h' t m (ns ++ [(k, 0, x, y)]) ∧ zfr t (t + 9) h h' := by
  obtain ⟨h', e, w⟩ := d_191 (sv := sv) (d := d) (k := k) (n := 0) (l := x) (r := y) ht hn
  exact ⟨h', by rw [zc_194, zs_194_0, zs_194_1, zs_194_2, zs_194_3, zs_194_4, zs_194_5, zTre_rc ht, e, zbk_v, zts_s, zs_194_8], w⟩
theorem d_194f {k x y : Int32} (ht : zTre h t m ns) (hn : ns.length = m) : zcall zP sv (d + 3) 194 [.ref t, .int k, .int x, .int y] h = some (.inl (some (.int (-1))), h) := by
  rw [zc_194, zs_194_0, zs_194_1, zs_194_2, zs_194_3, zs_194_4, zs_194_5, zTre_rc ht, d_191f ht hn, zbk_v, zts_s, zs_194_8]
theorem d_195l {t2 m2 : Nat} {ms : List yN} (hd : t + 9 ≤ t2 ∨ t2 + 9 ≤ t) (hm : ms.length ≤ m) : ∀ n i (h : zH), i + n = ms.length → zTre h t m (ms.take i) → zTre h t2 m2 ms → ∃ h', zrun zP sv (zcall zP sv (d + 2)) 195 6 [.val (.ref t), .val (.ref t2), .val (.int (nI i))] [] h = some (.inl none, h') ∧ zTre h' t m ms ∧ zfr t (t + 9) h h' := by
  intro n
  induction n with
  | zero =>
    intro i h hi ht ht2
    have hl := zTre_lt ht2
    obtain rfl : i = ms.length := by omega
    rw [List.take_length] at ht
    refine ⟨h, ?_, ht, zfr_rfl⟩
    rw [zs_195_6, zs_195_7, zs_195_8, zTre_rc ht2, d_182 ht2, zbk_v, zts_s, zs_195_11, if_neg (nI_nlt (by omega) (by omega)), zs_195_45]
  | succ n ih =>
    intro i h hi ht ht2
    have hl := zTre_lt ht2
    obtain ⟨nd, hnd⟩ : ∃ nd, ms[i]? = some nd := ⟨ms[i]'(by omega), List.getElem?_eq_getElem (by omega)⟩
    have hlen : (ms.take i).length = i := by rw [List.length_take]; omega
    obtain ⟨h1, e1, w1, f1⟩ := d_191 (sv := sv) (d := d) (k := nd.1) (n := nd.2.1) (l := nd.2.2.1) (r := nd.2.2.2) ht (by omega)
    have w2 : zTre h1 t m (ms.take (i + 1)) := by rw [List.take_add_one, hnd]; exact w1
    obtain ⟨h2, e2, w3, f2⟩ := ih (i + 1) h1 (by omega) w2 (zTre_fr ht2 f1 (by omega))
    refine ⟨h2, ?_, w3, zfr_tr f1 f2⟩
    rw [zs_195_6, zs_195_7, zs_195_8, zTre_rc ht2, d_182 ht2, zbk_v, zts_s, zs_195_11, if_pos (nI_lt (by omega) (by omega)), zs_195_14, zs_195_15, zs_195_16, zs_195_17, zTre_rc ht2, d_184 ht2 hnd, zbk_v, zts_s, zs_195_20, zs_195_21, zs_195_22, zTre_rc ht2, d_185 ht2 hnd, zbk_v, zts_s, zs_195_25, zs_195_26, zs_195_27, zTre_rc ht2, d_186 ht2 hnd, zbk_v, zts_s, zs_195_30, zs_195_31, zs_195_32, zTre_rc ht2, d_187 ht2 hnd, zbk_v, zts_s, zs_195_35, zTre_rc ht, e1, zbk_v, zts_s, zs_195_38, zs_195_39, zs_195_42, nI_1', e2]
theorem d_195 {t2 m2 : Nat} {ms : List yN} (ht : zTre h t m ns) (ht2 : zTre h t2 m2 ms) (hd : t + 9 ≤ t2 ∨ t2 + 9 ≤ t) (hm : ms.length ≤ m) : ∃ h', zcall zP sv (d + 3) 195 [.ref t, .ref t2] h = some (.inl none, h') ∧ zTre h' t m ms ∧ zfr t (t + 9) h h' := by
  obtain ⟨h1, e1, w1, f1⟩ := d_190 (sv := sv) (d := d + 1) ht
  obtain ⟨h2, e2, w2, f2⟩ := d_195l (sv := sv) (d := d) hd hm ms.length 0 h1 (Nat.zero_add _) (by rw [List.take_zero]; exact w1) (zTre_fr ht2 f1 (by omega))
  rw [nI_0] at e2
  refine ⟨h2, ?_, w2, zfr_tr f1 f2⟩
  rw [zc_195, zs_195_0, zs_195_1, zTre_rc ht, e1, zbk_v, zts_n, zs_195_4, zs_195_5 znw_u, e2]
end ZDC

/-- terms: a binary tree of the library's serves; kind, number, left, right -/
abbrev yT : Type := Std.DTreeMap.Internal.Impl Int32 (fun _ => Int32)
def ymk (k v : Int32) (l r : yT) : yT := .inner 0 k v l r
def ysz : yT → Nat
  | .leaf => 0
  | .inner _ _ _ l r => ysz l + ysz r + 1
def ydp : yT → Nat
  | .leaf => 0
  | .inner _ _ _ l r => max (ydp l) (ydp r) + 1
def yfo (f : Int32 → Int32 → Int32 → Int32 → Int32) : yT → Int32
  | .leaf => 0
  | .inner _ k v l r => f k v (yfo f l) (yfo f r)
def ynl : yT → Bool
  | .leaf => false
  | .inner _ _ _ _ _ => true
/-- the terms of a Tree's nodes -/
def ygt (ts : List yT) (x : Int32) : yT := if x < 0 then .leaf else ts.getD x.toNatClampNeg .leaf
def ytm (ns : List yN) : List yT := ns.foldl (fun ts nd => ts ++ [ymk nd.1 nd.2.1 (ygt ts nd.2.2.1) (ygt ts nd.2.2.2)]) []
def ych (i : Nat) (x : Int32) : Prop := x = -1 ∨ ∃ j, j < i ∧ x = nI j
def ywf (ns : List yN) : Prop := ns.length < 2 ^ 31 ∧ ∀ (i : Nat) (nd : yN), ns[i]? = some nd → ych i nd.2.2.1 ∧ ych i nd.2.2.2
theorem ytm_snoc {ns : List yN} {nd : yN} : ytm (ns ++ [nd]) = ytm ns ++ [ymk nd.1 nd.2.1 (ygt (ytm ns) nd.2.2.1) (ygt (ytm ns) nd.2.2.2)] := by
  unfold ytm
  rw [List.foldl_append]
  rfl
theorem ytm_len : ∀ (n : Nat) (ns : List yN), ns.length = n → (ytm ns).length = n := by
  intro n
  induction n with
  | zero =>
    intro ns hn
    rw [List.length_eq_zero_iff.mp hn]
    rfl
  | succ n ih =>
    intro ns hn
    have h0 : ns ≠ [] := by intro h1; rw [h1] at hn; cases hn
    rw [← List.dropLast_concat_getLast h0, ytm_snoc, List.length_append, ih ns.dropLast (by rw [List.length_dropLast]; omega)]
    rfl
theorem ytm_l {ns : List yN} : (ytm ns).length = ns.length := ytm_len _ ns rfl
theorem ytm_app {ms : List yN} : ∀ (n : Nat) (ns : List yN), ns.length = n → ∃ ts, ytm (ms ++ ns) = ytm ms ++ ts := by
  intro n
  induction n with
  | zero =>
    intro ns hn
    rw [List.length_eq_zero_iff.mp hn]
    exact ⟨[], by rw [List.append_nil, List.append_nil]⟩
  | succ n ih =>
    intro ns hn
    have h0 : ns ≠ [] := by intro h1; rw [h1] at hn; cases hn
    obtain ⟨ts, e⟩ := ih ns.dropLast (by rw [List.length_dropLast]; omega)
    rw [← List.dropLast_concat_getLast h0, ← List.append_assoc, ytm_snoc, e, List.append_assoc]
    exact ⟨_, rfl⟩
theorem ytm_pre {ms ns : List yN} {i : Nat} (hi : i < ms.length) : (ytm (ms ++ ns))[i]? = (ytm ms)[i]? := by
  obtain ⟨ts, e⟩ := ytm_app (ms := ms) ns.length ns rfl
  rw [e, List.getElem?_append_left (by rw [ytm_l]; exact hi)]
theorem ygt_n {ts : List yT} : ygt ts (-1) = .leaf := by
  unfold ygt
  rw [if_pos (by decide +kernel)]
theorem ygt_k {ts : List yT} {i : Nat} (hi : i < 2 ^ 31) : ygt ts (nI i) = ts.getD i .leaf := by
  unfold ygt
  rw [if_neg (nI_pos hi), nI_clamp hi]
theorem ygt_pre {ms ns : List yN} {x : Int32} (hl : ms.length < 2 ^ 31) (hx : ych ms.length x) : ygt (ytm (ms ++ ns)) x = ygt (ytm ms) x := by
  rcases hx with rfl | ⟨j, hj, rfl⟩
  · rw [ygt_n, ygt_n]
  · rw [ygt_k (by omega), ygt_k (by omega), List.getD_eq_getElem?_getD, List.getD_eq_getElem?_getD, ytm_pre hj]
theorem ych_mono {i j : Nat} {x : Int32} (hx : ych i x) (h : i ≤ j) : ych j x := by
  rcases hx with rfl | ⟨k, hk, rfl⟩
  · exact Or.inl rfl
  · exact Or.inr ⟨k, by omega, rfl⟩
theorem ytm_at {ns : List yN} {i : Nat} {nd : yN} (hw : ywf ns) (hi : ns[i]? = some nd) : (ytm ns)[i]? = some (ymk nd.1 nd.2.1 (ygt (ytm ns) nd.2.2.1) (ygt (ytm ns) nd.2.2.2)) := by
  have hl := (List.getElem?_eq_some_iff.mp hi).1
  have hlt : (ns.take i).length = i := by rw [List.length_take]; omega
  have e1 : ns = (ns.take i ++ [nd]) ++ ns.drop (i + 1) := by
    have : ns.drop i = nd :: ns.drop (i + 1) := by
      rw [List.drop_eq_getElem_cons hl]
      rw [List.getElem?_eq_getElem hl] at hi
      injection hi with hi
      rw [hi]
    rw [List.append_assoc, List.singleton_append, ← this, List.take_append_drop]
  have e2 : (ytm ns)[i]? = (ytm (ns.take i ++ [nd]))[i]? := by
    conv => lhs; rw [e1]
    exact ytm_pre (by rw [List.length_append, hlt]; exact Nat.lt_succ_self _)
  have hc := hw.2 i nd hi
  have hl0 := hw.1
  have e3 : ∀ x, ych i x → ygt (ytm ns) x = ygt (ytm (ns.take i)) x := by
    intro x hx
    conv => lhs; rw [← List.take_append_drop i ns]
    exact ygt_pre (by rw [hlt]; omega) (by rw [hlt]; exact hx)
  rw [e2, ytm_snoc, List.getElem?_append_right (by rw [ytm_l, hlt]; exact Nat.le_refl _), ytm_l, hlt, Nat.sub_self, e3 _ hc.1, e3 _ hc.2]
  rfl
theorem ywf_nil : ywf [] := ⟨by decide, fun i nd h => by cases h⟩
theorem ywf_snoc {ns : List yN} {nd : yN} (hw : ywf ns) (h1 : ych ns.length nd.2.2.1) (h2 : ych ns.length nd.2.2.2) (hl : ns.length + 1 < 2 ^ 31) : ywf (ns ++ [nd]) := by
  refine ⟨by rw [List.length_append]; exact hl, fun i nd' hi => ?_⟩
  by_cases h3 : i < ns.length
  · rw [List.getElem?_append_left h3] at hi
    exact hw.2 i nd' hi
  · have h4 := (List.getElem?_eq_some_iff.mp hi).1
    rw [List.length_append] at h4
    have h5 : i = ns.length := by
      have : [nd].length = 1 := rfl
      omega
    subst h5
    rw [List.getElem?_append_right (Nat.le_refl _), Nat.sub_self] at hi
    injection hi with hi
    subst hi
    exact ⟨h1, h2⟩
/-- a row that holds a fold of the first i nodes -/
def yQ (f : Int32 → Int32 → Int32 → Int32 → Int32) (ns : List yN) (A : List Int32) (i : Nat) : Prop := ∀ (j : Nat) (t : yT), j < i → (ytm ns)[j]? = some t → A[j]? = some (yfo f t)
theorem yQ_g {f : Int32 → Int32 → Int32 → Int32 → Int32} {ns : List yN} {A : List Int32} {i : Nat} {x : Int32} (hq : yQ f ns A i) (hx : ych i x) (hi : i ≤ ns.length) (hl : ns.length < 2 ^ 31) : yg A x = yfo f (ygt (ytm ns) x) := by
  rcases hx with rfl | ⟨j, hj, rfl⟩
  · rw [yg_n, ygt_n]; rfl
  · have e1 : (ytm ns)[j]? = some ((ytm ns)[j]'(by rw [ytm_l]; omega)) := List.getElem?_eq_getElem _
    rw [yg_e (by omega) (hq j _ hj e1), ygt_k (by omega), List.getD_eq_getElem?_getD, e1]
    rfl
theorem yQ_0 {f : Int32 → Int32 → Int32 → Int32 → Int32} {ns : List yN} {A : List Int32} : yQ f ns A 0 := fun j t hj => absurd hj (Nat.not_lt_zero j)
theorem yQ_s {f : Int32 → Int32 → Int32 → Int32 → Int32} {ns : List yN} {A : List Int32} {i : Nat} {nd : yN} (hw : ywf ns) (hi : ns[i]? = some nd) (hA : i < A.length) (hq : yQ f ns A i) : yQ f ns (A.set i (f nd.1 nd.2.1 (yg A nd.2.2.1) (yg A nd.2.2.2))) (i + 1) := by
  have hl := (List.getElem?_eq_some_iff.mp hi).1
  have hc := hw.2 i nd hi
  intro j t hj ht
  by_cases h1 : j = i
  · subst h1
    rw [ytm_at hw hi] at ht
    injection ht with ht
    subst ht
    rw [List.getElem?_set_self hA, yQ_g hq hc.1 (by omega) hw.1, yQ_g hq hc.2 (by omega) hw.1]
    rfl
  · rw [List.getElem?_set_ne (Ne.symm h1)]
    exact hq j t (by omega) ht
theorem yQ_x {f g : Int32 → Int32 → Int32 → Int32 → Int32} {ns : List yN} {A : List Int32} {i : Nat} (hq : yQ f ns A i) (he : ∀ t, yfo f t = yfo g t) : yQ g ns A i := fun j t hj ht => by rw [hq j t hj ht, he]
/-- the nodes of a term in post-order, from a place on -/
def yri (off : Nat) : yT → Int32
  | .leaf => -1
  | .inner _ _ _ l r => nI (off + ysz l + ysz r)
def ypo : Nat → yT → List yN
  | _, .leaf => []
  | off, .inner _ k v l r => ypo off l ++ ypo (off + ysz l) r ++ [(k, v, yri off l, yri (off + ysz l) r)]
theorem ypo_len : ∀ (t : yT) (off : Nat), (ypo off t).length = ysz t
  | .leaf, _ => rfl
  | .inner _ k v l r, off => by
    unfold ypo ysz
    rw [List.length_append, List.length_append, ypo_len l, ypo_len r]
    rfl

def yIo (k : Int32) : Prop := k = nI 43 ∨ k = nI 45 ∨ k = nI 42
def yop (k a b : Int32) : Int32 := if k = nI 110 then -a else if k = nI 43 then a + b else if k = nI 45 then a - b else if k = nI 42 then a * b else 0
def ymx (x y : Int32) : Int32 := if x < y then y else x
def yfN (_ _ a b : Int32) : Int32 := nI 1 + a + b
def yfL (_ _ a b : Int32) : Int32 := nI 1 + ymx a b
def zGc (g : Nat) : zC := (10, [.ref (g + 1), .ref (g + 3), .ref (g + 5)])
/-- a Gauge at g: three rows of 124 -/
def zGau (h : zH) (g : Nat) (A B C : List Int32) : Prop := h.1 g = zGc g ∧ zRow h (g + 1) A ∧ zRow h (g + 3) B ∧ zRow h (g + 5) C ∧ A.length = 124 ∧ B.length = 124 ∧ C.length = 124
theorem zGau_rc {h : zH} {g : Nat} {A B C : List Int32} {X : zR} (hg : zGau h g A B C) : zrc (h.1 g) 10 X = X := by
  rw [hg.1]
  exact zrc_k
theorem zGau_fr {h h' : zH} {lo hi g : Nat} {A B C : List Int32} (hg : zGau h g A B C) (hf : zfr lo hi h h') (hq : g + 7 ≤ lo ∨ hi ≤ g) : zGau h' g A B C := ⟨by rw [hf.1 g (by omega), hg.1], zRow_fr hg.2.1 hf (by omega), zRow_fr hg.2.2.1 hf (by omega), zRow_fr hg.2.2.2.1 hf (by omega), hg.2.2.2.2⟩
theorem zGau_1 {h : zH} {g : Nat} {A B C A' : List Int32} (hg : zGau h g A B C) (hA : A'.length = 124) : zGau (zup h (g + 1 + 1) (20, A'.map Value.int)) g A' B C := ⟨by rw [zup_ne (by omega), hg.1], zRow_new hg.2.1 (by rw [hA, hg.2.2.2.2.1]), zRow_up hg.2.2.1 (by omega) (by omega), zRow_up hg.2.2.2.1 (by omega) (by omega), hA, hg.2.2.2.2.2⟩
theorem zGau_2 {h : zH} {g : Nat} {A B C A' : List Int32} (hg : zGau h g A B C) (hA : A'.length = 124) : zGau (zup h (g + 3 + 1) (20, A'.map Value.int)) g A A' C := ⟨by rw [zup_ne (by omega), hg.1], zRow_up hg.2.1 (by omega) (by omega), zRow_new hg.2.2.1 (by rw [hA, hg.2.2.2.2.2.1]), zRow_up hg.2.2.2.1 (by omega) (by omega), hg.2.2.2.2.1, hA, hg.2.2.2.2.2.2⟩
theorem zGau_3 {h : zH} {g : Nat} {A B C A' : List Int32} (hg : zGau h g A B C) (hA : A'.length = 124) : zGau (zup h (g + 5 + 1) (20, A'.map Value.int)) g A B A' := ⟨by rw [zup_ne (by omega), hg.1], zRow_up hg.2.1 (by omega) (by omega), zRow_up hg.2.2.1 (by omega) (by omega), zRow_new hg.2.2.2.1 (by rw [hA, hg.2.2.2.2.2.2]), hg.2.2.2.2.1, hg.2.2.2.2.2.1, hA⟩
theorem ynd_ex {ns : List yN} {i : Nat} (hi : i < ns.length) : ∃ nd, ns[i]? = some nd := ⟨ns[i], List.getElem?_eq_getElem hi⟩

theorem zsw_ne {tab : List (Int × Nat)} {j : Nat} {x : Int32} (h : ∀ q, q ∈ tab → q.1 ≠ x.toInt) : zswp tab j x = j := by
  unfold zswp
  have : tab.find? (fun q => q.1 == x.toInt) = none := by
    rw [List.find?_eq_none]
    intro q hq he
    exact h q hq (by simpa using he)
  rw [this]
  rfl
theorem nI_neI {x : Int32} {k : Nat} (hk : k < 2 ^ 31) (h : ¬ x = nI k) : (k : Int) ≠ x.toInt := fun h1 => h (by
  rw [← nI_toInt hk] at h1
  exact (Int32.toInt_inj.mp h1).symm)
theorem zsw_84 {k : Int32} (h1 : ¬ k = nI 110) (h2 : ¬ k = nI 43) (h3 : ¬ k = nI 45) (h4 : ¬ k = nI 42) : zswp (zP.2.2.2.1 0) 59 k = 59 := by
  apply zsw_ne
  intro q hq
  have e0 : zP.2.2.2.1 0 = [(42, 55), (43, 47), (45, 51), (110, 44)] := rfl
  rw [e0] at hq
  simp only [List.mem_cons, List.not_mem_nil, or_false] at hq
  rcases hq with rfl | rfl | rfl | rfl
  · exact nI_neI (k := 42) (by decide) h4
  · exact nI_neI (k := 43) (by decide) h2
  · exact nI_neI (k := 45) (by decide) h3
  · exact nI_neI (k := 110) (by decide) h1
theorem nIx1 : ((nI 43 : Int32) = nI 110) = False := by decide +kernel
theorem nIx2 : ((nI 45 : Int32) = nI 110) = False := by decide +kernel
theorem nIx3 : ((nI 45 : Int32) = nI 43) = False := by decide +kernel
theorem nIx4 : ((nI 42 : Int32) = nI 110) = False := by decide +kernel
theorem nIx5 : ((nI 42 : Int32) = nI 43) = False := by decide +kernel
theorem nIx6 : ((nI 42 : Int32) = nI 45) = False := by decide +kernel
section ZDE
variable {sv : Nat → Value} {d : Nat} {h : zH}
theorem d_84 {k a b : Int32} : zcall zP sv (d + 1) 84 [.int k, .int a, .int b] h = some (.inl (some (.int (yop k a b))), h) := by
  rw [zc_84, zs_84_0, zs_84_1]
  unfold yop
  by_cases h1 : k = nI 110
  · rw [if_pos h1, h1, zw_0_110]
    simp only [zs_84_0, zs_84_1, zs_84_44, zs_84_45, zs_84_46, zs_84_47, zs_84_48, zs_84_49, zs_84_50, zs_84_51, zs_84_52, zs_84_53, zs_84_54, zs_84_55, zs_84_56, zs_84_57, zs_84_58, zs_84_59, zs_84_60]
  · rw [if_neg h1]
    by_cases h2 : k = nI 43
    · rw [if_pos h2, h2, zw_0_43]
      simp only [zs_84_0, zs_84_1, zs_84_44, zs_84_45, zs_84_46, zs_84_47, zs_84_48, zs_84_49, zs_84_50, zs_84_51, zs_84_52, zs_84_53, zs_84_54, zs_84_55, zs_84_56, zs_84_57, zs_84_58, zs_84_59, zs_84_60]
    · rw [if_neg h2]
      by_cases h3 : k = nI 45
      · rw [if_pos h3, h3, zw_0_45]
        simp only [zs_84_0, zs_84_1, zs_84_44, zs_84_45, zs_84_46, zs_84_47, zs_84_48, zs_84_49, zs_84_50, zs_84_51, zs_84_52, zs_84_53, zs_84_54, zs_84_55, zs_84_56, zs_84_57, zs_84_58, zs_84_59, zs_84_60]
      · rw [if_neg h3]
        by_cases h4 : k = nI 42
        · rw [if_pos h4, h4, zw_0_42]
          simp only [zs_84_0, zs_84_1, zs_84_44, zs_84_45, zs_84_46, zs_84_47, zs_84_48, zs_84_49, zs_84_50, zs_84_51, zs_84_52, zs_84_53, zs_84_54, zs_84_55, zs_84_56, zs_84_57, zs_84_58, zs_84_59, zs_84_60]
        · rw [if_neg h4, zsw_84 h1 h2 h3 h4]
          simp only [zs_84_0, zs_84_1, zs_84_44, zs_84_45, zs_84_46, zs_84_47, zs_84_48, zs_84_49, zs_84_50, zs_84_51, zs_84_52, zs_84_53, zs_84_54, zs_84_55, zs_84_56, zs_84_57, zs_84_58, zs_84_59, zs_84_60]
def yis (k : Int32) : Bool := decide (k = nI 43) || decide (k = nI 45) || decide (k = nI 42)
def yb (b : Bool) : Int32 := if b = true then nI 1 else 0
theorem yb_t : yb true = nI 1 := rfl
theorem yb_f : yb false = 0 := rfl
theorem zty_5b {b : Bool} : zty 5 (.int (yb b)) = true := by cases b <;> rfl
theorem d_83 {k : Int32} : zcall zP sv (d + 1) 83 [.int k] h = some (.inl (some (.int (yb (yis k)))), h) := by
  unfold yis
  by_cases h1 : k = nI 43
  · simp only [zc_83, zs_83_0, zs_83_1, zs_83_3, zs_83_6, zs_83_7, zs_83_9, zs_83_12, zs_83_13, zs_83_15, zs_83_18, zs_83_19, zs_83_22, zs_83_23, if_pos h1, zgd_t, zty_51, decide_eq_true h1, Bool.true_or, yb_t]
  · by_cases h2 : k = nI 45
    · simp only [zc_83, zs_83_0, zs_83_1, zs_83_3, zs_83_6, zs_83_7, zs_83_9, zs_83_12, zs_83_13, zs_83_15, zs_83_18, zs_83_19, zs_83_22, zs_83_23, if_neg h1, if_pos h2, zgd_t, zty_51, decide_eq_false h1, decide_eq_true h2, Bool.true_or, Bool.false_or, yb_t]
    · by_cases h3 : k = nI 42
      · simp only [zc_83, zs_83_0, zs_83_1, zs_83_3, zs_83_6, zs_83_7, zs_83_9, zs_83_12, zs_83_13, zs_83_15, zs_83_18, zs_83_19, zs_83_22, zs_83_23, if_neg h1, if_neg h2, if_pos h3, zgd_t, zty_51, decide_eq_false h1, decide_eq_false h2, decide_eq_true h3, Bool.false_or, yb_t]
      · simp only [zc_83, zs_83_0, zs_83_1, zs_83_3, zs_83_6, zs_83_7, zs_83_9, zs_83_12, zs_83_13, zs_83_15, zs_83_18, zs_83_19, zs_83_22, zs_83_23, if_neg h1, if_neg h2, if_neg h3, zgd_t, zty_50, decide_eq_false h1, decide_eq_false h2, decide_eq_false h3, Bool.false_or, yb_f]
end ZDE
def yfP (k _ a b : Int32) : Int32 := if k = nI 118 then nI 1 else if k = nI 42 then a + b else ymx a b
def yfR (T : List Int32) (k v a b : Int32) : Int32 := if k = nI 99 then v else if k = nI 118 then yg T (v - nI 97) else yop k a b
def yfD (k _ a b : Int32) : Int32 := if yis k = true then (if a = b then a + nI 1 else ymx a b) else if k = nI 110 then a else nI 1
def yfO (k _ a b : Int32) : Int32 := if yis k = true then (if ymx b (a + nI 1) < ymx a (b + nI 1) then ymx b (a + nI 1) else ymx a (b + nI 1)) else if k = nI 110 then a else nI 1
section ZDF
variable {sv : Nat → Value} {d : Nat}
theorem d_120 {h : zH} {t m g i : Nat} {ns : List yN} {nd : yN} {A B C : List Int32} (ht : zTre h t m ns) (hg : zGau h g A B C) (hnd : ns[i]? = some nd) : zcall zP sv (d + 3) 120 [.ref g, .ref t, .int (nI i)] h = some (.inl (some (.int (yfP nd.1 nd.2.1 (yg A nd.2.2.1) (yg A nd.2.2.2)))), h) := by
  have e0 := hg.1
  unfold yfP ymx
  by_cases h1 : nd.1 = nI 118
  · simp (disch := exact znw_u) only [zc_120, zs_120_0, zs_120_1, zs_120_2, zs_120_5, zs_120_6, zs_120_7, zs_120_9, zs_120_12, zs_120_13, zs_120_14, zs_120_15, zs_120_18, zs_120_19, zs_120_20, zs_120_23, zs_120_26, zs_120_28, zs_120_29, zs_120_32, zs_120_33, zs_120_34, zs_120_37, zs_120_40, zs_120_42, zs_120_43, zs_120_45, zs_120_48, zs_120_50, zs_120_52, zs_120_53, zs_120_56, zs_120_58, zs_120_60, zs_120_63, zTre_rc ht, d_182 ht, e0, zGc, zrc_10, zf_10_0, zp_10_0, zp_10_0n, zf_10_1, zp_10_1, zp_10_1n, zf_10_2, zp_10_2, zp_10_2n, zRow_rc hg.2.1, d_165 hg.2.1, zRow_rc hg.2.2.2.1, d_165 hg.2.2.2.1, d_184 ht hnd, d_185 ht hnd, d_186 ht hnd, d_187 ht hnd, zbk_v, zts_s, zts_n, if_pos h1]
  · by_cases h2 : nd.1 = nI 42
    · simp (disch := exact znw_u) only [zc_120, zs_120_0, zs_120_1, zs_120_2, zs_120_5, zs_120_6, zs_120_7, zs_120_9, zs_120_12, zs_120_13, zs_120_14, zs_120_15, zs_120_18, zs_120_19, zs_120_20, zs_120_23, zs_120_26, zs_120_28, zs_120_29, zs_120_32, zs_120_33, zs_120_34, zs_120_37, zs_120_40, zs_120_42, zs_120_43, zs_120_45, zs_120_48, zs_120_50, zs_120_52, zs_120_53, zs_120_56, zs_120_58, zs_120_60, zs_120_63, zTre_rc ht, d_182 ht, e0, zGc, zrc_10, zf_10_0, zp_10_0, zp_10_0n, zf_10_1, zp_10_1, zp_10_1n, zf_10_2, zp_10_2, zp_10_2n, zRow_rc hg.2.1, d_165 hg.2.1, zRow_rc hg.2.2.2.1, d_165 hg.2.2.2.1, d_184 ht hnd, d_185 ht hnd, d_186 ht hnd, d_187 ht hnd, zbk_v, zts_s, zts_n, if_neg h1, if_pos h2]
    · simp (disch := exact znw_u) only [zc_120, zs_120_0, zs_120_1, zs_120_2, zs_120_5, zs_120_6, zs_120_7, zs_120_9, zs_120_12, zs_120_13, zs_120_14, zs_120_15, zs_120_18, zs_120_19, zs_120_20, zs_120_23, zs_120_26, zs_120_28, zs_120_29, zs_120_32, zs_120_33, zs_120_34, zs_120_37, zs_120_40, zs_120_42, zs_120_43, zs_120_45, zs_120_48, zs_120_50, zs_120_52, zs_120_53, zs_120_56, zs_120_58, zs_120_60, zs_120_63, zTre_rc ht, d_182 ht, e0, zGc, zrc_10, zf_10_0, zp_10_0, zp_10_0n, zf_10_1, zp_10_1, zp_10_1n, zf_10_2, zp_10_2, zp_10_2n, zRow_rc hg.2.1, d_165 hg.2.1, zRow_rc hg.2.2.2.1, d_165 hg.2.2.2.1, d_184 ht hnd, d_185 ht hnd, d_186 ht hnd, d_187 ht hnd, zbk_v, zts_s, zts_n, if_neg h1, if_neg h2]
theorem d_122 {h : zH} {t m g i : Nat} {ns : List yN} {nd : yN} {A B C : List Int32} {l : Nat} {T : List Int32} (ht : zTre h t m ns) (hg : zGau h g A B C) (hnd : ns[i]? = some nd) (hl : zRow h l T) : zcall zP sv (d + 3) 122 [.ref g, .ref t, .int (nI i), .ref l] h = some (.inl (some (.int (yfR T nd.1 nd.2.1 (yg A nd.2.2.1) (yg A nd.2.2.2)))), h) := by
  have e0 := hg.1
  unfold yfR
  by_cases h1 : nd.1 = nI 99
  · simp (disch := exact znw_u) only [zc_122, zs_122_0, zs_122_1, zs_122_2, zs_122_5, zs_122_7, zs_122_9, zs_122_11, zs_122_14, zs_122_15, zs_122_16, zs_122_19, zs_122_20, zs_122_22, zs_122_24, zs_122_27, zs_122_28, zs_122_29, zs_122_30, zs_122_33, zs_122_35, zs_122_36, zs_122_39, zs_122_40, zs_122_42, zs_122_43, zs_122_46, zs_122_47, zs_122_48, zs_122_51, zs_122_54, zs_122_55, zs_122_58, zs_122_59, zs_122_60, zs_122_63, zs_122_66, zs_122_69, zTre_rc ht, d_182 ht, e0, zGc, zrc_10, zf_10_0, zp_10_0, zp_10_0n, zf_10_1, zp_10_1, zp_10_1n, zf_10_2, zp_10_2, zp_10_2n, zRow_rc hg.2.1, d_165 hg.2.1, zRow_rc hg.2.2.2.1, d_165 hg.2.2.2.1, d_184 ht hnd, d_185 ht hnd, d_186 ht hnd, d_187 ht hnd, zbk_v, zts_s, zts_n, if_pos h1]
  · by_cases h2 : nd.1 = nI 118
    · simp (disch := exact znw_u) only [zc_122, zs_122_0, zs_122_1, zs_122_2, zs_122_5, zs_122_7, zs_122_9, zs_122_11, zs_122_14, zs_122_15, zs_122_16, zs_122_19, zs_122_20, zs_122_22, zs_122_24, zs_122_27, zs_122_28, zs_122_29, zs_122_30, zs_122_33, zs_122_35, zs_122_36, zs_122_39, zs_122_40, zs_122_42, zs_122_43, zs_122_46, zs_122_47, zs_122_48, zs_122_51, zs_122_54, zs_122_55, zs_122_58, zs_122_59, zs_122_60, zs_122_63, zs_122_66, zs_122_69, zTre_rc ht, d_182 ht, e0, zGc, zrc_10, zf_10_0, zp_10_0, zp_10_0n, zf_10_1, zp_10_1, zp_10_1n, zf_10_2, zp_10_2, zp_10_2n, zRow_rc hg.2.1, d_165 hg.2.1, zRow_rc hg.2.2.2.1, d_165 hg.2.2.2.1, d_184 ht hnd, d_185 ht hnd, d_186 ht hnd, d_187 ht hnd, zbk_v, zts_s, zts_n, if_neg h1, if_pos h2, zRow_rc hl, d_165 hl]
    · simp (disch := exact znw_u) only [zc_122, zs_122_0, zs_122_1, zs_122_2, zs_122_5, zs_122_7, zs_122_9, zs_122_11, zs_122_14, zs_122_15, zs_122_16, zs_122_19, zs_122_20, zs_122_22, zs_122_24, zs_122_27, zs_122_28, zs_122_29, zs_122_30, zs_122_33, zs_122_35, zs_122_36, zs_122_39, zs_122_40, zs_122_42, zs_122_43, zs_122_46, zs_122_47, zs_122_48, zs_122_51, zs_122_54, zs_122_55, zs_122_58, zs_122_59, zs_122_60, zs_122_63, zs_122_66, zs_122_69, zTre_rc ht, d_182 ht, e0, zGc, zrc_10, zf_10_0, zp_10_0, zp_10_0n, zf_10_1, zp_10_1, zp_10_1n, zf_10_2, zp_10_2, zp_10_2n, zRow_rc hg.2.1, d_165 hg.2.1, zRow_rc hg.2.2.2.1, d_165 hg.2.2.2.1, d_184 ht hnd, d_185 ht hnd, d_186 ht hnd, d_187 ht hnd, zbk_v, zts_s, zts_n, if_neg h1, if_neg h2, d_84]
theorem d_127 {h : zH} {t m g i : Nat} {ns : List yN} {nd : yN} {A B C : List Int32} (ht : zTre h t m ns) (hg : zGau h g A B C) (hnd : ns[i]? = some nd) : zcall zP sv (d + 3) 127 [.ref g, .ref t, .int (nI i)] h = some (.inl (some (.int (yfD nd.1 nd.2.1 (yg C nd.2.2.1) (yg C nd.2.2.2)))), h) := by
  have e0 := hg.1
  unfold yfD ymx
  cases h1 : yis nd.1 with
  | true =>
    by_cases h2 : yg C nd.2.2.1 = yg C nd.2.2.2
    · simp (disch := exact znw_u) only [zc_127, zs_127_0, zs_127_1, zs_127_4, zs_127_5, zs_127_6, zs_127_9, zs_127_12, zs_127_13, zs_127_14, zs_127_17, zs_127_18, zs_127_19, zs_127_22, zs_127_25, zs_127_27, zs_127_28, zs_127_29, zs_127_32, zs_127_35, zs_127_38, zs_127_39, zs_127_41, zs_127_44, zs_127_45, zs_127_46, zs_127_47, zs_127_50, zs_127_51, zs_127_53, zs_127_56, zs_127_57, zs_127_58, zs_127_59, zs_127_62, zs_127_64, zs_127_67, zs_127_68, zs_127_71, zs_127_72, zTre_rc ht, d_182 ht, e0, zGc, zrc_10, zf_10_0, zp_10_0, zp_10_0n, zf_10_1, zp_10_1, zp_10_1n, zf_10_2, zp_10_2, zp_10_2n, zRow_rc hg.2.1, d_165 hg.2.1, zRow_rc hg.2.2.2.1, d_165 hg.2.2.2.1, d_184 ht hnd, d_185 ht hnd, d_186 ht hnd, d_187 ht hnd, zbk_v, zts_s, zts_n, d_83, h1, yb_t, nI_1e0, if_pos h2, ↓reduceIte]
    · simp (disch := exact znw_u) only [zc_127, zs_127_0, zs_127_1, zs_127_4, zs_127_5, zs_127_6, zs_127_9, zs_127_12, zs_127_13, zs_127_14, zs_127_17, zs_127_18, zs_127_19, zs_127_22, zs_127_25, zs_127_27, zs_127_28, zs_127_29, zs_127_32, zs_127_35, zs_127_38, zs_127_39, zs_127_41, zs_127_44, zs_127_45, zs_127_46, zs_127_47, zs_127_50, zs_127_51, zs_127_53, zs_127_56, zs_127_57, zs_127_58, zs_127_59, zs_127_62, zs_127_64, zs_127_67, zs_127_68, zs_127_71, zs_127_72, zTre_rc ht, d_182 ht, e0, zGc, zrc_10, zf_10_0, zp_10_0, zp_10_0n, zf_10_1, zp_10_1, zp_10_1n, zf_10_2, zp_10_2, zp_10_2n, zRow_rc hg.2.1, d_165 hg.2.1, zRow_rc hg.2.2.2.1, d_165 hg.2.2.2.1, d_184 ht hnd, d_185 ht hnd, d_186 ht hnd, d_187 ht hnd, zbk_v, zts_s, zts_n, d_83, h1, yb_t, nI_1e0, if_neg h2, ↓reduceIte]
  | false =>
    by_cases h2 : nd.1 = nI 110
    · simp (disch := exact znw_u) only [zc_127, zs_127_0, zs_127_1, zs_127_4, zs_127_5, zs_127_6, zs_127_9, zs_127_12, zs_127_13, zs_127_14, zs_127_17, zs_127_18, zs_127_19, zs_127_22, zs_127_25, zs_127_27, zs_127_28, zs_127_29, zs_127_32, zs_127_35, zs_127_38, zs_127_39, zs_127_41, zs_127_44, zs_127_45, zs_127_46, zs_127_47, zs_127_50, zs_127_51, zs_127_53, zs_127_56, zs_127_57, zs_127_58, zs_127_59, zs_127_62, zs_127_64, zs_127_67, zs_127_68, zs_127_71, zs_127_72, zTre_rc ht, d_182 ht, e0, zGc, zrc_10, zf_10_0, zp_10_0, zp_10_0n, zf_10_1, zp_10_1, zp_10_1n, zf_10_2, zp_10_2, zp_10_2n, zRow_rc hg.2.1, d_165 hg.2.1, zRow_rc hg.2.2.2.1, d_165 hg.2.2.2.1, d_184 ht hnd, d_185 ht hnd, d_186 ht hnd, d_187 ht hnd, zbk_v, zts_s, zts_n, d_83, h1, yb_f, if_pos h2, ↓reduceIte, Bool.false_eq_true]
    · simp (disch := exact znw_u) only [zc_127, zs_127_0, zs_127_1, zs_127_4, zs_127_5, zs_127_6, zs_127_9, zs_127_12, zs_127_13, zs_127_14, zs_127_17, zs_127_18, zs_127_19, zs_127_22, zs_127_25, zs_127_27, zs_127_28, zs_127_29, zs_127_32, zs_127_35, zs_127_38, zs_127_39, zs_127_41, zs_127_44, zs_127_45, zs_127_46, zs_127_47, zs_127_50, zs_127_51, zs_127_53, zs_127_56, zs_127_57, zs_127_58, zs_127_59, zs_127_62, zs_127_64, zs_127_67, zs_127_68, zs_127_71, zs_127_72, zTre_rc ht, d_182 ht, e0, zGc, zrc_10, zf_10_0, zp_10_0, zp_10_0n, zf_10_1, zp_10_1, zp_10_1n, zf_10_2, zp_10_2, zp_10_2n, zRow_rc hg.2.1, d_165 hg.2.1, zRow_rc hg.2.2.2.1, d_165 hg.2.2.2.1, d_184 ht hnd, d_185 ht hnd, d_186 ht hnd, d_187 ht hnd, zbk_v, zts_s, zts_n, d_83, h1, yb_f, if_neg h2, ↓reduceIte, Bool.false_eq_true]
theorem d_129 {h : zH} {t m g i : Nat} {ns : List yN} {nd : yN} {A B C : List Int32} (ht : zTre h t m ns) (hg : zGau h g A B C) (hnd : ns[i]? = some nd) : zcall zP sv (d + 3) 129 [.ref g, .ref t, .int (nI i)] h = some (.inl (some (.int (yfO nd.1 nd.2.1 (yg A nd.2.2.1) (yg A nd.2.2.2)))), h) := by
  have e0 := hg.1
  unfold yfO ymx
  cases h1 : yis nd.1 with
  | true => simp (disch := exact znw_u) only [zc_129, zs_129_0, zs_129_1, zs_129_4, zs_129_5, zs_129_6, zs_129_9, zs_129_12, zs_129_13, zs_129_14, zs_129_17, zs_129_18, zs_129_19, zs_129_22, zs_129_25, zs_129_27, zs_129_28, zs_129_29, zs_129_32, zs_129_35, zs_129_38, zs_129_39, zs_129_41, zs_129_42, zs_129_43, zs_129_46, zs_129_48, zs_129_50, zs_129_51, zs_129_52, zs_129_53, zs_129_56, zs_129_58, zs_129_60, zs_129_62, zs_129_65, zs_129_66, zs_129_67, zs_129_68, zs_129_71, zs_129_73, zs_129_76, zs_129_77, zs_129_80, zs_129_81, zTre_rc ht, d_182 ht, e0, zGc, zrc_10, zf_10_0, zp_10_0, zp_10_0n, zf_10_1, zp_10_1, zp_10_1n, zf_10_2, zp_10_2, zp_10_2n, zRow_rc hg.2.1, d_165 hg.2.1, zRow_rc hg.2.2.2.1, d_165 hg.2.2.2.1, d_184 ht hnd, d_185 ht hnd, d_186 ht hnd, d_187 ht hnd, zbk_v, zts_s, zts_n, d_83, h1, yb_t, nI_1e0, ↓reduceIte]
  | false =>
    by_cases h2 : nd.1 = nI 110
    · simp (disch := exact znw_u) only [zc_129, zs_129_0, zs_129_1, zs_129_4, zs_129_5, zs_129_6, zs_129_9, zs_129_12, zs_129_13, zs_129_14, zs_129_17, zs_129_18, zs_129_19, zs_129_22, zs_129_25, zs_129_27, zs_129_28, zs_129_29, zs_129_32, zs_129_35, zs_129_38, zs_129_39, zs_129_41, zs_129_42, zs_129_43, zs_129_46, zs_129_48, zs_129_50, zs_129_51, zs_129_52, zs_129_53, zs_129_56, zs_129_58, zs_129_60, zs_129_62, zs_129_65, zs_129_66, zs_129_67, zs_129_68, zs_129_71, zs_129_73, zs_129_76, zs_129_77, zs_129_80, zs_129_81, zTre_rc ht, d_182 ht, e0, zGc, zrc_10, zf_10_0, zp_10_0, zp_10_0n, zf_10_1, zp_10_1, zp_10_1n, zf_10_2, zp_10_2, zp_10_2n, zRow_rc hg.2.1, d_165 hg.2.1, zRow_rc hg.2.2.2.1, d_165 hg.2.2.2.1, d_184 ht hnd, d_185 ht hnd, d_186 ht hnd, d_187 ht hnd, zbk_v, zts_s, zts_n, d_83, h1, yb_f, if_pos h2, ↓reduceIte, Bool.false_eq_true]
    · simp (disch := exact znw_u) only [zc_129, zs_129_0, zs_129_1, zs_129_4, zs_129_5, zs_129_6, zs_129_9, zs_129_12, zs_129_13, zs_129_14, zs_129_17, zs_129_18, zs_129_19, zs_129_22, zs_129_25, zs_129_27, zs_129_28, zs_129_29, zs_129_32, zs_129_35, zs_129_38, zs_129_39, zs_129_41, zs_129_42, zs_129_43, zs_129_46, zs_129_48, zs_129_50, zs_129_51, zs_129_52, zs_129_53, zs_129_56, zs_129_58, zs_129_60, zs_129_62, zs_129_65, zs_129_66, zs_129_67, zs_129_68, zs_129_71, zs_129_73, zs_129_76, zs_129_77, zs_129_80, zs_129_81, zTre_rc ht, d_182 ht, e0, zGc, zrc_10, zf_10_0, zp_10_0, zp_10_0n, zf_10_1, zp_10_1, zp_10_1n, zf_10_2, zp_10_2, zp_10_2n, zRow_rc hg.2.1, d_165 hg.2.1, zRow_rc hg.2.2.2.1, d_165 hg.2.2.2.1, d_184 ht hnd, d_185 ht hnd, d_186 ht hnd, d_187 ht hnd, zbk_v, zts_s, zts_n, d_83, h1, yb_f, if_neg h2, ↓reduceIte, Bool.false_eq_true]
end ZDF
section ZDG
variable {sv : Nat → Value} {d : Nat} {t m g : Nat} {ns : List yN}
theorem d_117l {rt : Int32} (hw : ywf ns) (hd : g + 7 ≤ t ∨ t + 9 ≤ g) (hn : ns.length ≤ 124) : ∀ n i (h : zH) (A B C : List Int32), i + n = ns.length → zTre h t m ns → zGau h g A B C → yQ (yfN) ns A i → ∃ h' A', zrun zP sv (zcall zP sv (d + 3)) 117 2 [.val (.ref g), .val (.ref t), .val (.int rt), .val (.int (nI i))] [] h = some (.inl (some (.int (yg A' rt))), h') ∧ zGau h' g A' B C ∧ yQ (yfN) ns A' ns.length ∧ zfr g (g + 7) h h' := by
  intro n
  induction n with
  | zero =>
    intro i h A B C  hi ht hg hq
    obtain rfl : i = ns.length := by omega
    have f0 : ¬ nI ns.length < nI ns.length := nI_nlt (Nat.le_refl _) hw.1
    have e0 := hg.1
    refine ⟨h, A, ?_, hg, hq, zfr_rfl⟩
    simp only [zs_117_0, zs_117_1, zs_117_2, zs_117_3, zs_117_4, zs_117_7, zs_117_10, zs_117_11, zs_117_14, zs_117_15, zs_117_16, zs_117_17, zs_117_20, zs_117_21, zs_117_22, zs_117_25, zs_117_28, zs_117_29, zs_117_30, zs_117_33, zs_117_34, zs_117_35, zs_117_38, zs_117_41, zs_117_42, zs_117_45, zs_117_48, zs_117_51, zs_117_52, zs_117_55, zs_117_56, zs_117_59, zTre_rc ht, d_182 ht, d_183 ht, if_neg f0, e0, zGc, zrc_10, zf_10_0, zp_10_0, zp_10_0n, zf_10_1, zp_10_1, zp_10_1n, zf_10_2, zp_10_2, zp_10_2n, zRow_rc hg.2.1, d_165 hg.2.1, zbk_v, zts_s]
  | succ n ih =>
    intro i h A B C   hi ht hg hq
    obtain ⟨nd, hnd⟩ := ynd_ex (ns := ns) (i := i) (by omega)
    have hl := hw.1
    have f0 : nI i < nI ns.length := nI_lt (by omega) hl
    have e0 := hg.1
    have hA := hg.2.2.2.2.1
    have e1 := d_166 (sv := sv) (d := d + 2) (x := nI i) (y := (yfN nd.1 nd.2.1 (yg A nd.2.2.1) (yg A nd.2.2.2))) hg.2.1
    have g1 := zGau_1 (A' := ys A (nI i) (yfN nd.1 nd.2.1 (yg A nd.2.2.1) (yg A nd.2.2.2))) hg (by rw [ys_len, hA])
    have q1 := yQ_s hw hnd (by omega) hq
    have f1 : zfr g (g + 7) h (zup h (g + 1 + 1) (20, (ys A (nI i) (yfN nd.1 nd.2.1 (yg A nd.2.2.1) (yg A nd.2.2.2))).map Value.int)) := zfr_up (by omega) (by omega)
    rw [ys_k (by omega)] at e1 g1 f1
    obtain ⟨h', A', e2, w⟩ := ih (i + 1) _ _ _ _  (by omega) (zTre_fr ht f1 (by omega)) g1 q1
    refine ⟨h', A', ?_, w.1, w.2.1, zfr_tr f1 w.2.2⟩
    unfold yfN at e1
    simp (disch := assumption) only [zs_117_0, zs_117_1, zs_117_2, zs_117_3, zs_117_4, zs_117_7, zs_117_10, zs_117_11, zs_117_14, zs_117_15, zs_117_16, zs_117_17, zs_117_20, zs_117_21, zs_117_22, zs_117_25, zs_117_28, zs_117_29, zs_117_30, zs_117_33, zs_117_34, zs_117_35, zs_117_38, zs_117_41, zs_117_42, zs_117_45, zs_117_51, zs_117_52, zs_117_55, zs_117_56, zs_117_59, zTre_rc ht, d_182 ht, e0, zGc, zrc_10, zf_10_0, zp_10_0, zp_10_0n, zf_10_1, zp_10_1, zp_10_1n, zf_10_2, zp_10_2, zp_10_2n, zRow_rc hg.2.1, d_165 hg.2.1, zRow_rc hg.2.2.2.1, d_165 hg.2.2.2.1, d_184 ht hnd, d_185 ht hnd, d_186 ht hnd, d_187 ht hnd, zbk_v, zts_s, zts_n, zGau_rc hg, if_pos f0, e1]
    rw [zs_117_48, nI_1']
    exact e2
theorem d_118l {rt : Int32} (hw : ywf ns) (hd : g + 7 ≤ t ∨ t + 9 ≤ g) (hn : ns.length ≤ 124) : ∀ n i (h : zH) (A B C : List Int32) (s4 : Slot) (s5 : Slot), znw s4 = true → znw s5 = true → i + n = ns.length → zTre h t m ns → zGau h g A B C → yQ (yfL) ns A i → ∃ h' A', zrun zP sv (zcall zP sv (d + 3)) 118 2 [.val (.ref g), .val (.ref t), .val (.int rt), .val (.int (nI i)), s4, s5] [] h = some (.inl (some (.int (yg A' rt))), h') ∧ zGau h' g A' B C ∧ yQ (yfL) ns A' ns.length ∧ zfr g (g + 7) h h' := by
  intro n
  induction n with
  | zero =>
    intro i h A B C s4 s5 _ _ hi ht hg hq
    obtain rfl : i = ns.length := by omega
    have f0 : ¬ nI ns.length < nI ns.length := nI_nlt (Nat.le_refl _) hw.1
    have e0 := hg.1
    refine ⟨h, A, ?_, hg, hq, zfr_rfl⟩
    simp only [zs_118_0, zs_118_1, zs_118_2, zs_118_3, zs_118_4, zs_118_7, zs_118_10, zs_118_11, zs_118_14, zs_118_15, zs_118_16, zs_118_19, zs_118_22, zs_118_24, zs_118_25, zs_118_28, zs_118_29, zs_118_30, zs_118_33, zs_118_36, zs_118_38, zs_118_39, zs_118_42, zs_118_43, zs_118_44, zs_118_46, zs_118_48, zs_118_51, zs_118_52, zs_118_55, zs_118_58, zs_118_61, zs_118_62, zs_118_65, zs_118_66, zs_118_69, zTre_rc ht, d_182 ht, d_183 ht, if_neg f0, e0, zGc, zrc_10, zf_10_0, zp_10_0, zp_10_0n, zf_10_1, zp_10_1, zp_10_1n, zf_10_2, zp_10_2, zp_10_2n, zRow_rc hg.2.1, d_165 hg.2.1, zbk_v, zts_s]
  | succ n ih =>
    intro i h A B C s4 s5 hs0 hs1 hi ht hg hq
    obtain ⟨nd, hnd⟩ := ynd_ex (ns := ns) (i := i) (by omega)
    have hl := hw.1
    have f0 : nI i < nI ns.length := nI_lt (by omega) hl
    have e0 := hg.1
    have hA := hg.2.2.2.2.1
    have e1 := d_166 (sv := sv) (d := d + 2) (x := nI i) (y := (yfL nd.1 nd.2.1 (yg A nd.2.2.1) (yg A nd.2.2.2))) hg.2.1
    have g1 := zGau_1 (A' := ys A (nI i) (yfL nd.1 nd.2.1 (yg A nd.2.2.1) (yg A nd.2.2.2))) hg (by rw [ys_len, hA])
    have q1 := yQ_s hw hnd (by omega) hq
    have f1 : zfr g (g + 7) h (zup h (g + 1 + 1) (20, (ys A (nI i) (yfL nd.1 nd.2.1 (yg A nd.2.2.1) (yg A nd.2.2.2))).map Value.int)) := zfr_up (by omega) (by omega)
    rw [ys_k (by omega)] at e1 g1 f1
    obtain ⟨h', A', e2, w⟩ := ih (i + 1) _ _ _ _ (.val (.int (yg A nd.2.2.1))) (.val (.int (yg A nd.2.2.2))) rfl rfl (by omega) (zTre_fr ht f1 (by omega)) g1 q1
    refine ⟨h', A', ?_, w.1, w.2.1, zfr_tr f1 w.2.2⟩
    unfold yfL ymx at e1
    simp (disch := assumption) only [zs_118_0, zs_118_1, zs_118_2, zs_118_3, zs_118_4, zs_118_7, zs_118_10, zs_118_11, zs_118_14, zs_118_15, zs_118_16, zs_118_19, zs_118_22, zs_118_24, zs_118_25, zs_118_28, zs_118_29, zs_118_30, zs_118_33, zs_118_36, zs_118_38, zs_118_39, zs_118_42, zs_118_43, zs_118_44, zs_118_46, zs_118_48, zs_118_51, zs_118_52, zs_118_55, zs_118_61, zs_118_62, zs_118_65, zs_118_66, zs_118_69, zTre_rc ht, d_182 ht, e0, zGc, zrc_10, zf_10_0, zp_10_0, zp_10_0n, zf_10_1, zp_10_1, zp_10_1n, zf_10_2, zp_10_2, zp_10_2n, zRow_rc hg.2.1, d_165 hg.2.1, zRow_rc hg.2.2.2.1, d_165 hg.2.2.2.1, d_184 ht hnd, d_185 ht hnd, d_186 ht hnd, d_187 ht hnd, zbk_v, zts_s, zts_n, zGau_rc hg, if_pos f0, e1]
    rw [zs_118_58, nI_1']
    exact e2
theorem d_119l  (hw : ywf ns) (hd : g + 7 ≤ t ∨ t + 9 ≤ g) (hn : ns.length ≤ 124) : ∀ n i (h : zH) (A B C : List Int32), i + n = ns.length → zTre h t m ns → zGau h g A B C → yQ (yfP) ns A i → ∃ h' A', zrun zP sv (zcall zP sv (d + 3)) 119 2 [.val (.ref g), .val (.ref t), .val (.int (nI i))] [] h = some (.inl (some (.int (yg A' (nI ns.length - nI 1)))), h') ∧ zGau h' g A' B C ∧ yQ (yfP) ns A' ns.length ∧ zfr g (g + 7) h h' := by
  intro n
  induction n with
  | zero =>
    intro i h A B C  hi ht hg hq
    obtain rfl : i = ns.length := by omega
    have f0 : ¬ nI ns.length < nI ns.length := nI_nlt (Nat.le_refl _) hw.1
    have e0 := hg.1
    refine ⟨h, A, ?_, hg, hq, zfr_rfl⟩
    simp only [zs_119_0, zs_119_1, zs_119_2, zs_119_3, zs_119_4, zs_119_7, zs_119_10, zs_119_11, zs_119_14, zs_119_15, zs_119_16, zs_119_17, zs_119_18, zs_119_21, zs_119_24, zs_119_27, zs_119_30, zs_119_31, zs_119_34, zs_119_35, zs_119_38, zs_119_41, zTre_rc ht, d_182 ht, d_183 ht, if_neg f0, e0, zGc, zrc_10, zf_10_0, zp_10_0, zp_10_0n, zf_10_1, zp_10_1, zp_10_1n, zf_10_2, zp_10_2, zp_10_2n, zRow_rc hg.2.1, d_165 hg.2.1, zbk_v, zts_s]
  | succ n ih =>
    intro i h A B C   hi ht hg hq
    obtain ⟨nd, hnd⟩ := ynd_ex (ns := ns) (i := i) (by omega)
    have hl := hw.1
    have f0 : nI i < nI ns.length := nI_lt (by omega) hl
    have e0 := hg.1
    have hA := hg.2.2.2.2.1
    have e1 := d_166 (sv := sv) (d := d + 2) (x := nI i) (y := (yfP nd.1 nd.2.1 (yg A nd.2.2.1) (yg A nd.2.2.2))) hg.2.1
    have g1 := zGau_1 (A' := ys A (nI i) (yfP nd.1 nd.2.1 (yg A nd.2.2.1) (yg A nd.2.2.2))) hg (by rw [ys_len, hA])
    have q1 := yQ_s hw hnd (by omega) hq
    have f1 : zfr g (g + 7) h (zup h (g + 1 + 1) (20, (ys A (nI i) (yfP nd.1 nd.2.1 (yg A nd.2.2.1) (yg A nd.2.2.2))).map Value.int)) := zfr_up (by omega) (by omega)
    rw [ys_k (by omega)] at e1 g1 f1
    obtain ⟨h', A', e2, w⟩ := ih (i + 1) _ _ _ _  (by omega) (zTre_fr ht f1 (by omega)) g1 q1
    refine ⟨h', A', ?_, w.1, w.2.1, zfr_tr f1 w.2.2⟩
    skip
    simp (disch := assumption) only [zs_119_0, zs_119_1, zs_119_2, zs_119_3, zs_119_4, zs_119_7, zs_119_10, zs_119_11, zs_119_14, zs_119_15, zs_119_16, zs_119_17, zs_119_18, zs_119_21, zs_119_24, zs_119_30, zs_119_31, zs_119_34, zs_119_35, zs_119_38, zs_119_41, zTre_rc ht, d_182 ht, e0, zGc, zrc_10, zf_10_0, zp_10_0, zp_10_0n, zf_10_1, zp_10_1, zp_10_1n, zf_10_2, zp_10_2, zp_10_2n, zRow_rc hg.2.1, d_165 hg.2.1, zRow_rc hg.2.2.2.1, d_165 hg.2.2.2.1, d_184 ht hnd, d_185 ht hnd, d_186 ht hnd, d_187 ht hnd, zbk_v, zts_s, zts_n, zGau_rc hg, if_pos f0, d_120 ht hg hnd, e1]
    rw [zs_119_27, nI_1']
    exact e2
theorem d_121l {rt : Int32} {l : Nat} {T : List Int32} (hw : ywf ns) (hd : g + 7 ≤ t ∨ t + 9 ≤ g) (hn : ns.length ≤ 124) (hdl : g + 7 ≤ l ∨ l + 2 ≤ g) : ∀ n i (h : zH) (A B C : List Int32), i + n = ns.length → zTre h t m ns → zGau h g A B C → zRow h l T → yQ (yfR T) ns A i → ∃ h' A', zrun zP sv (zcall zP sv (d + 3)) 121 3 [.val (.ref g), .val (.ref t), .val (.int rt), .val (.ref l), .val (.int (nI i))] [] h = some (.inl (some (.int (yg A' rt))), h') ∧ zGau h' g A' B C ∧ yQ (yfR T) ns A' ns.length ∧ zfr g (g + 7) h h' := by
  intro n
  induction n with
  | zero =>
    intro i h A B C  hi ht hg hl2 hq
    obtain rfl : i = ns.length := by omega
    have f0 : ¬ nI ns.length < nI ns.length := nI_nlt (Nat.le_refl _) hw.1
    have e0 := hg.1
    refine ⟨h, A, ?_, hg, hq, zfr_rfl⟩
    simp only [zs_121_0, zs_121_1, zs_121_3, zs_121_5, zs_121_6, zs_121_9, zs_121_12, zs_121_13, zs_121_16, zs_121_18, zs_121_19, zs_121_20, zs_121_22, zs_121_23, zs_121_26, zs_121_29, zs_121_32, zs_121_35, zs_121_36, zs_121_39, zs_121_40, zs_121_43, zTre_rc ht, d_182 ht, d_183 ht, if_neg f0, e0, zGc, zrc_10, zf_10_0, zp_10_0, zp_10_0n, zf_10_1, zp_10_1, zp_10_1n, zf_10_2, zp_10_2, zp_10_2n, zRow_rc hg.2.1, d_165 hg.2.1, zbk_v, zts_s]
  | succ n ih =>
    intro i h A B C   hi ht hg hl2 hq
    obtain ⟨nd, hnd⟩ := ynd_ex (ns := ns) (i := i) (by omega)
    have hl := hw.1
    have f0 : nI i < nI ns.length := nI_lt (by omega) hl
    have e0 := hg.1
    have hA := hg.2.2.2.2.1
    have e1 := d_166 (sv := sv) (d := d + 2) (x := nI i) (y := (yfR T nd.1 nd.2.1 (yg A nd.2.2.1) (yg A nd.2.2.2))) hg.2.1
    have g1 := zGau_1 (A' := ys A (nI i) (yfR T nd.1 nd.2.1 (yg A nd.2.2.1) (yg A nd.2.2.2))) hg (by rw [ys_len, hA])
    have q1 := yQ_s hw hnd (by omega) hq
    have f1 : zfr g (g + 7) h (zup h (g + 1 + 1) (20, (ys A (nI i) (yfR T nd.1 nd.2.1 (yg A nd.2.2.1) (yg A nd.2.2.2))).map Value.int)) := zfr_up (by omega) (by omega)
    rw [ys_k (by omega)] at e1 g1 f1
    obtain ⟨h', A', e2, w⟩ := ih (i + 1) _ _ _ _  (by omega) (zTre_fr ht f1 (by omega)) g1 (zRow_fr hl2 f1 (by omega)) q1
    refine ⟨h', A', ?_, w.1, w.2.1, zfr_tr f1 w.2.2⟩
    skip
    simp (disch := assumption) only [zs_121_0, zs_121_1, zs_121_3, zs_121_5, zs_121_6, zs_121_9, zs_121_12, zs_121_13, zs_121_16, zs_121_18, zs_121_19, zs_121_20, zs_121_22, zs_121_23, zs_121_26, zs_121_29, zs_121_35, zs_121_36, zs_121_39, zs_121_40, zs_121_43, zTre_rc ht, d_182 ht, e0, zGc, zrc_10, zf_10_0, zp_10_0, zp_10_0n, zf_10_1, zp_10_1, zp_10_1n, zf_10_2, zp_10_2, zp_10_2n, zRow_rc hg.2.1, d_165 hg.2.1, zRow_rc hg.2.2.2.1, d_165 hg.2.2.2.1, d_184 ht hnd, d_185 ht hnd, d_186 ht hnd, d_187 ht hnd, zbk_v, zts_s, zts_n, zGau_rc hg, if_pos f0, d_122 ht hg hnd hl2, e1]
    rw [zs_121_32, nI_1']
    exact e2
theorem d_125l  (hw : ywf ns) (hd : g + 7 ≤ t ∨ t + 9 ≤ g) (hn : ns.length ≤ 124) : ∀ n i (h : zH) (A B C : List Int32), i + n = ns.length → zTre h t m ns → zGau h g A B C → yQ (yfD) ns C i → ∃ h' A', zrun zP sv (zcall zP sv (d + 3)) 125 2 [.val (.ref g), .val (.ref t), .val (.int (nI i))] [] h = some (.inl (some (.int (yg A' (nI ns.length - nI 1)))), h') ∧ zGau h' g A B A' ∧ yQ (yfD) ns A' ns.length ∧ zfr g (g + 7) h h' := by
  intro n
  induction n with
  | zero =>
    intro i h A B C  hi ht hg hq
    obtain rfl : i = ns.length := by omega
    have f0 : ¬ nI ns.length < nI ns.length := nI_nlt (Nat.le_refl _) hw.1
    have e0 := hg.1
    refine ⟨h, C, ?_, hg, hq, zfr_rfl⟩
    simp only [zs_125_0, zs_125_1, zs_125_2, zs_125_3, zs_125_4, zs_125_7, zs_125_10, zs_125_11, zs_125_14, zs_125_15, zs_125_16, zs_125_17, zs_125_18, zs_125_21, zs_125_24, zs_125_27, zs_125_30, zs_125_31, zs_125_34, zs_125_35, zs_125_38, zs_125_41, zTre_rc ht, d_182 ht, d_183 ht, if_neg f0, e0, zGc, zrc_10, zf_10_0, zp_10_0, zp_10_0n, zf_10_1, zp_10_1, zp_10_1n, zf_10_2, zp_10_2, zp_10_2n, zRow_rc hg.2.2.2.1, d_165 hg.2.2.2.1, zbk_v, zts_s]
  | succ n ih =>
    intro i h A B C   hi ht hg hq
    obtain ⟨nd, hnd⟩ := ynd_ex (ns := ns) (i := i) (by omega)
    have hl := hw.1
    have f0 : nI i < nI ns.length := nI_lt (by omega) hl
    have e0 := hg.1
    have hA := hg.2.2.2.2.2.2
    have e1 := d_166 (sv := sv) (d := d + 2) (x := nI i) (y := (yfD nd.1 nd.2.1 (yg C nd.2.2.1) (yg C nd.2.2.2))) hg.2.2.2.1
    have g1 := zGau_3 (A' := ys C (nI i) (yfD nd.1 nd.2.1 (yg C nd.2.2.1) (yg C nd.2.2.2))) hg (by rw [ys_len, hA])
    have q1 := yQ_s hw hnd (by omega) hq
    have f1 : zfr g (g + 7) h (zup h (g + 5 + 1) (20, (ys C (nI i) (yfD nd.1 nd.2.1 (yg C nd.2.2.1) (yg C nd.2.2.2))).map Value.int)) := zfr_up (by omega) (by omega)
    rw [ys_k (by omega)] at e1 g1 f1
    obtain ⟨h', A', e2, w⟩ := ih (i + 1) _ _ _ _  (by omega) (zTre_fr ht f1 (by omega)) g1 q1
    refine ⟨h', A', ?_, w.1, w.2.1, zfr_tr f1 w.2.2⟩
    skip
    simp (disch := assumption) only [zs_125_0, zs_125_1, zs_125_2, zs_125_3, zs_125_4, zs_125_7, zs_125_10, zs_125_11, zs_125_14, zs_125_15, zs_125_16, zs_125_17, zs_125_18, zs_125_21, zs_125_24, zs_125_30, zs_125_31, zs_125_34, zs_125_35, zs_125_38, zs_125_41, zTre_rc ht, d_182 ht, e0, zGc, zrc_10, zf_10_0, zp_10_0, zp_10_0n, zf_10_1, zp_10_1, zp_10_1n, zf_10_2, zp_10_2, zp_10_2n, zRow_rc hg.2.1, d_165 hg.2.1, zRow_rc hg.2.2.2.1, d_165 hg.2.2.2.1, d_184 ht hnd, d_185 ht hnd, d_186 ht hnd, d_187 ht hnd, zbk_v, zts_s, zts_n, zGau_rc hg, if_pos f0, d_127 ht hg hnd, e1]
    rw [zs_125_27, nI_1']
    exact e2
theorem d_128l  (hw : ywf ns) (hd : g + 7 ≤ t ∨ t + 9 ≤ g) (hn : ns.length ≤ 124) : ∀ n i (h : zH) (A B C : List Int32), i + n = ns.length → zTre h t m ns → zGau h g A B C → yQ (yfO) ns A i → ∃ h' A', zrun zP sv (zcall zP sv (d + 3)) 128 2 [.val (.ref g), .val (.ref t), .val (.int (nI i))] [] h = some (.inl (some (.int (yg A' (nI ns.length - nI 1)))), h') ∧ zGau h' g A' B C ∧ yQ (yfO) ns A' ns.length ∧ zfr g (g + 7) h h' := by
  intro n
  induction n with
  | zero =>
    intro i h A B C  hi ht hg hq
    obtain rfl : i = ns.length := by omega
    have f0 : ¬ nI ns.length < nI ns.length := nI_nlt (Nat.le_refl _) hw.1
    have e0 := hg.1
    refine ⟨h, A, ?_, hg, hq, zfr_rfl⟩
    simp only [zs_128_0, zs_128_1, zs_128_2, zs_128_3, zs_128_4, zs_128_7, zs_128_10, zs_128_11, zs_128_14, zs_128_15, zs_128_16, zs_128_17, zs_128_18, zs_128_21, zs_128_24, zs_128_27, zs_128_30, zs_128_31, zs_128_34, zs_128_35, zs_128_38, zs_128_41, zTre_rc ht, d_182 ht, d_183 ht, if_neg f0, e0, zGc, zrc_10, zf_10_0, zp_10_0, zp_10_0n, zf_10_1, zp_10_1, zp_10_1n, zf_10_2, zp_10_2, zp_10_2n, zRow_rc hg.2.1, d_165 hg.2.1, zbk_v, zts_s]
  | succ n ih =>
    intro i h A B C   hi ht hg hq
    obtain ⟨nd, hnd⟩ := ynd_ex (ns := ns) (i := i) (by omega)
    have hl := hw.1
    have f0 : nI i < nI ns.length := nI_lt (by omega) hl
    have e0 := hg.1
    have hA := hg.2.2.2.2.1
    have e1 := d_166 (sv := sv) (d := d + 2) (x := nI i) (y := (yfO nd.1 nd.2.1 (yg A nd.2.2.1) (yg A nd.2.2.2))) hg.2.1
    have g1 := zGau_1 (A' := ys A (nI i) (yfO nd.1 nd.2.1 (yg A nd.2.2.1) (yg A nd.2.2.2))) hg (by rw [ys_len, hA])
    have q1 := yQ_s hw hnd (by omega) hq
    have f1 : zfr g (g + 7) h (zup h (g + 1 + 1) (20, (ys A (nI i) (yfO nd.1 nd.2.1 (yg A nd.2.2.1) (yg A nd.2.2.2))).map Value.int)) := zfr_up (by omega) (by omega)
    rw [ys_k (by omega)] at e1 g1 f1
    obtain ⟨h', A', e2, w⟩ := ih (i + 1) _ _ _ _  (by omega) (zTre_fr ht f1 (by omega)) g1 q1
    refine ⟨h', A', ?_, w.1, w.2.1, zfr_tr f1 w.2.2⟩
    skip
    simp (disch := assumption) only [zs_128_0, zs_128_1, zs_128_2, zs_128_3, zs_128_4, zs_128_7, zs_128_10, zs_128_11, zs_128_14, zs_128_15, zs_128_16, zs_128_17, zs_128_18, zs_128_21, zs_128_24, zs_128_30, zs_128_31, zs_128_34, zs_128_35, zs_128_38, zs_128_41, zTre_rc ht, d_182 ht, e0, zGc, zrc_10, zf_10_0, zp_10_0, zp_10_0n, zf_10_1, zp_10_1, zp_10_1n, zf_10_2, zp_10_2, zp_10_2n, zRow_rc hg.2.1, d_165 hg.2.1, zRow_rc hg.2.2.2.1, d_165 hg.2.2.2.1, d_184 ht hnd, d_185 ht hnd, d_186 ht hnd, d_187 ht hnd, zbk_v, zts_s, zts_n, zGau_rc hg, if_pos f0, d_129 ht hg hnd, e1]
    rw [zs_128_27, nI_1']
    exact e2
theorem d_117 {h : zH} {A B C : List Int32} {rt : Int32} (hw : ywf ns) (hd : g + 7 ≤ t ∨ t + 9 ≤ g) (hn : ns.length ≤ 124) (ht : zTre h t m ns) (hg : zGau h g A B C) : ∃ h' A', zcall zP sv (d + 4) 117 [.ref g, .ref t, .int rt] h = some (.inl (some (.int (yg A' rt))), h') ∧ zGau h' g A' B C ∧ yQ (yfN) ns A' ns.length ∧ zfr g (g + 7) h h' := by
  obtain ⟨h', A', e, w⟩ := d_117l (sv := sv) (d := d) (rt := rt) hw hd hn ns.length 0 h A B C (Nat.zero_add _) ht hg yQ_0
  rw [nI_0] at e
  refine ⟨h', A', ?_, w⟩
  rw [zc_117, zs_117_0, zs_117_1 znw_u, e]
theorem d_118 {h : zH} {A B C : List Int32} {rt : Int32} (hw : ywf ns) (hd : g + 7 ≤ t ∨ t + 9 ≤ g) (hn : ns.length ≤ 124) (ht : zTre h t m ns) (hg : zGau h g A B C) : ∃ h' A', zcall zP sv (d + 4) 118 [.ref g, .ref t, .int rt] h = some (.inl (some (.int (yg A' rt))), h') ∧ zGau h' g A' B C ∧ yQ (yfL) ns A' ns.length ∧ zfr g (g + 7) h h' := by
  obtain ⟨h', A', e, w⟩ := d_118l (sv := sv) (d := d) (rt := rt) hw hd hn ns.length 0 h A B C .unset .unset rfl rfl (Nat.zero_add _) ht hg yQ_0
  rw [nI_0] at e
  refine ⟨h', A', ?_, w⟩
  rw [zc_118, zs_118_0, zs_118_1 znw_u, e]
theorem d_119 {h : zH} {A B C : List Int32}  (hw : ywf ns) (hd : g + 7 ≤ t ∨ t + 9 ≤ g) (hn : ns.length ≤ 124) (ht : zTre h t m ns) (hg : zGau h g A B C) : ∃ h' A', zcall zP sv (d + 4) 119 [.ref g, .ref t] h = some (.inl (some (.int (yg A' (nI ns.length - nI 1)))), h') ∧ zGau h' g A' B C ∧ yQ (yfP) ns A' ns.length ∧ zfr g (g + 7) h h' := by
  obtain ⟨h', A', e, w⟩ := d_119l (sv := sv) (d := d) hw hd hn ns.length 0 h A B C (Nat.zero_add _) ht hg yQ_0
  rw [nI_0] at e
  refine ⟨h', A', ?_, w⟩
  rw [zc_119, zs_119_0, zs_119_1 znw_u, e]
theorem d_121 {h : zH} {A B C : List Int32} {rt : Int32} {l : Nat} {T : List Int32} (hw : ywf ns) (hd : g + 7 ≤ t ∨ t + 9 ≤ g) (hn : ns.length ≤ 124) (hdl : g + 7 ≤ l ∨ l + 2 ≤ g) (ht : zTre h t m ns) (hg : zGau h g A B C) (hl2 : zRow h l T) : ∃ h' A', zcall zP sv (d + 4) 121 [.ref g, .ref t, .int rt, .ref l] h = some (.inl (some (.int (yg A' rt))), h') ∧ zGau h' g A' B C ∧ yQ (yfR T) ns A' ns.length ∧ zfr g (g + 7) h h' := by
  obtain ⟨h', A', e, w⟩ := d_121l (sv := sv) (d := d) (rt := rt) hw hd hn hdl ns.length 0 h A B C (Nat.zero_add _) ht hg hl2 yQ_0
  rw [nI_0] at e
  refine ⟨h', A', ?_, w⟩
  rw [zc_121, zs_121_0, zs_121_1 znw_u, e]
theorem d_125 {h : zH} {A B C : List Int32}  (hw : ywf ns) (hd : g + 7 ≤ t ∨ t + 9 ≤ g) (hn : ns.length ≤ 124) (ht : zTre h t m ns) (hg : zGau h g A B C) : ∃ h' A', zcall zP sv (d + 4) 125 [.ref g, .ref t] h = some (.inl (some (.int (yg A' (nI ns.length - nI 1)))), h') ∧ zGau h' g A B A' ∧ yQ (yfD) ns A' ns.length ∧ zfr g (g + 7) h h' := by
  obtain ⟨h', A', e, w⟩ := d_125l (sv := sv) (d := d) hw hd hn ns.length 0 h A B C (Nat.zero_add _) ht hg yQ_0
  rw [nI_0] at e
  refine ⟨h', A', ?_, w⟩
  rw [zc_125, zs_125_0, zs_125_1 znw_u, e]
theorem d_128 {h : zH} {A B C : List Int32}  (hw : ywf ns) (hd : g + 7 ≤ t ∨ t + 9 ≤ g) (hn : ns.length ≤ 124) (ht : zTre h t m ns) (hg : zGau h g A B C) : ∃ h' A', zcall zP sv (d + 4) 128 [.ref g, .ref t] h = some (.inl (some (.int (yg A' (nI ns.length - nI 1)))), h') ∧ zGau h' g A' B C ∧ yQ (yfO) ns A' ns.length ∧ zfr g (g + 7) h h' := by
  obtain ⟨h', A', e, w⟩ := d_128l (sv := sv) (d := d) hw hd hn ns.length 0 h A B C (Nat.zero_add _) ht hg yQ_0
  rw [nI_0] at e
  refine ⟨h', A', ?_, w⟩
  rw [zc_128, zs_128_0, zs_128_1 znw_u, e]
end ZDG

theorem ygt_at {ns : List yN} {j : Nat} {nd : yN} (hw : ywf ns) (hnd : ns[j]? = some nd) : ygt (ytm ns) (nI j) = ymk nd.1 nd.2.1 (ygt (ytm ns) nd.2.2.1) (ygt (ytm ns) nd.2.2.2) := by
  have hj := (List.getElem?_eq_some_iff.mp hnd).1
  have := hw.1
  rw [ygt_k (by omega), List.getD_eq_getElem?_getD, ytm_at hw hnd]
  rfl
theorem ych_lt {ns : List yN} {j : Nat} {nd : yN} (hw : ywf ns) (hnd : ns[j]? = some nd) : ych ns.length nd.2.2.1 ∧ ych ns.length nd.2.2.2 := by
  have hj := (List.getElem?_eq_some_iff.mp hnd).1
  exact ⟨ych_mono (hw.2 j nd hnd).1 (by omega), ych_mono (hw.2 j nd hnd).2 (by omega)⟩
theorem ysz_mk {k v : Int32} {l r : yT} : ysz (ymk k v l r) = ysz l + ysz r + 1 := rfl
theorem ydp_mk {k v : Int32} {l r : yT} : ydp (ymk k v l r) = max (ydp l) (ydp r) + 1 := rfl
theorem ypo_mk {k v : Int32} {l r : yT} {o : Nat} : ypo o (ymk k v l r) = ypo o l ++ ypo (o + ysz l) r ++ [(k, v, yri o l, yri (o + ysz l) r)] := rfl
theorem yri_mk {k v : Int32} {l r : yT} {o : Nat} : yri o (ymk k v l r) = nI (o + ysz l + ysz r) := rfl
theorem nI_nm1 {j : Nat} (hj : j < 2 ^ 31) : ¬ nI j = -1 := by
  intro h
  have := congrArg Int32.toInt h
  rw [nI_toInt hj] at this
  have e : (-1 : Int32).toInt = -1 := by decide +kernel
  omega
theorem nI_m1e : ((-1 : Int32) = -1) = True := by decide +kernel
section ZDH
variable {sv : Nat → Value}
theorem d_86 {f o m mo : Nat} {ns : List yN} (hw : ywf ns) (hd : f + 9 ≤ o ∨ o + 9 ≤ f) : ∀ (t : yT) (x : Int32) (D ℓ : Nat) (h : zH) (os : List yN), ych ns.length x → ygt (ytm ns) x = t → ydp t + 3 ≤ D → ℓ + ydp t ≤ 41 → os.length + ysz t ≤ mo → zTre h f m ns → zTre h o mo os → ∃ h', zcall zP sv D 86 [.ref f, .int x, .ref o, .int (nI ℓ)] h = some (.inl (some (.int (yri os.length t))), h') ∧ zTre h' o mo (os ++ ypo os.length t) ∧ zfr o (o + 9) h h' := by
  have main : ∀ (n : Nat) (t : yT), ydp t ≤ n → ∀ (x : Int32) (D ℓ : Nat) (h : zH) (os : List yN), ych ns.length x → ygt (ytm ns) x = t → ydp t + 3 ≤ D → ℓ + ydp t ≤ 41 → os.length + ysz t ≤ mo → zTre h f m ns → zTre h o mo os → ∃ h', zcall zP sv D 86 [.ref f, .int x, .ref o, .int (nI ℓ)] h = some (.inl (some (.int (yri os.length t))), h') ∧ zTre h' o mo (os ++ ypo os.length t) ∧ zfr o (o + 9) h h' := by
    intro n
    induction n with
    | zero =>
      intro t hn x D ℓ h os hx ht hD hL hs hf ho
      obtain ⟨d, rfl⟩ : ∃ d, D = d + 1 := ⟨D - 1, by omega⟩
      rcases hx with rfl | ⟨j, hj, rfl⟩
      · rw [ygt_n] at ht
        subst ht
        refine ⟨h, ?_, by rw [show ypo os.length (.leaf : yT) = [] from rfl, List.append_nil]; exact ho, zfr_rfl⟩
        simp only [zc_86, zs_86_0, zs_86_1, zs_86_2, zs_86_5, zs_86_6, zs_86_8, zs_86_11, zs_86_12, zs_86_13, zs_86_14, zs_86_15, zs_86_16, zs_86_19, zs_86_20, zs_86_21, zs_86_22, zs_86_23, zs_86_26, zs_86_28, zs_86_29, zs_86_30, zs_86_31, zs_86_34, zs_86_35, zs_86_36, zs_86_37, zs_86_38, zs_86_41, zs_86_43, zs_86_44, zs_86_45, zs_86_46, zs_86_49, zs_86_50, zs_86_51, zs_86_54, zs_86_56, zs_86_58, zs_86_61, nI_m1e, ↓reduceIte]
        rfl
      · obtain ⟨nd, hnd⟩ := ynd_ex hj
        rw [ygt_at hw hnd] at ht
        subst ht
        rw [ydp_mk] at hn
        omega
    | succ n ih =>
      intro t hn x D ℓ h os hx ht hD hL hs hf ho
      obtain ⟨d, rfl⟩ : ∃ d, D = d + 3 := ⟨D - 3, by omega⟩
      rcases hx with rfl | ⟨j, hj, rfl⟩
      · rw [ygt_n] at ht
        subst ht
        refine ⟨h, ?_, by rw [show ypo os.length (.leaf : yT) = [] from rfl, List.append_nil]; exact ho, zfr_rfl⟩
        simp only [zc_86, zs_86_0, zs_86_1, zs_86_2, zs_86_5, zs_86_6, zs_86_8, zs_86_11, zs_86_12, zs_86_13, zs_86_14, zs_86_15, zs_86_16, zs_86_19, zs_86_20, zs_86_21, zs_86_22, zs_86_23, zs_86_26, zs_86_28, zs_86_29, zs_86_30, zs_86_31, zs_86_34, zs_86_35, zs_86_36, zs_86_37, zs_86_38, zs_86_41, zs_86_43, zs_86_44, zs_86_45, zs_86_46, zs_86_49, zs_86_50, zs_86_51, zs_86_54, zs_86_56, zs_86_58, zs_86_61, nI_m1e, ↓reduceIte]
        rfl
      · obtain ⟨nd, hnd⟩ := ynd_ex hj
        have hc := ych_lt hw hnd
        have hl := hw.1
        rw [ygt_at hw hnd] at ht
        subst ht
        rw [ydp_mk] at hn hD hL
        rw [ysz_mk] at hs
        have m1 := Nat.le_max_left (ydp (ygt (ytm ns) nd.2.2.1)) (ydp (ygt (ytm ns) nd.2.2.2))
        have m2 := Nat.le_max_right (ydp (ygt (ytm ns) nd.2.2.1)) (ydp (ygt (ytm ns) nd.2.2.2))
        obtain ⟨h1, e1, w1, f1⟩ := ih (ygt (ytm ns) nd.2.2.1) (by omega) nd.2.2.1 (d + 2) (ℓ + 1) h os hc.1 rfl (by omega) (by omega) (by omega) hf ho
        have hlen : (os ++ ypo os.length (ygt (ytm ns) nd.2.2.1)).length = os.length + ysz (ygt (ytm ns) nd.2.2.1) := by rw [List.length_append, ypo_len]
        obtain ⟨h2, e2, w2, f2⟩ := ih (ygt (ytm ns) nd.2.2.2) (by omega) nd.2.2.2 (d + 2) (ℓ + 1) h1 _ hc.2 rfl (by omega) (by omega) (by rw [hlen]; omega) (zTre_fr hf f1 (by omega)) w1
        rw [hlen] at e2 w2
        have hlen2 : (os ++ ypo os.length (ygt (ytm ns) nd.2.2.1) ++ ypo (os.length + ysz (ygt (ytm ns) nd.2.2.1)) (ygt (ytm ns) nd.2.2.2)).length = os.length + ysz (ygt (ytm ns) nd.2.2.1) + ysz (ygt (ytm ns) nd.2.2.2) := by rw [List.length_append, hlen, ypo_len]
        have hf2 := zTre_fr (zTre_fr hf f1 (by omega)) f2 (by omega)
        obtain ⟨h3, e3, w3, f3⟩ := d_191 (sv := sv) (d := d) (k := nd.1) (n := nd.2.1) (l := yri os.length (ygt (ytm ns) nd.2.2.1)) (r := yri (os.length + ysz (ygt (ytm ns) nd.2.2.1)) (ygt (ytm ns) nd.2.2.2)) w2 (by rw [hlen2]; omega)
        rw [hlen2] at e3
        refine ⟨h3, ?_, ?_, zfr_tr (zfr_tr f1 f2) f3⟩
        · have g1 : ¬ nI j = -1 := nI_nm1 (by omega)
          have g2 : ¬ nI 40 < nI ℓ := nI_nlt (by omega) (by omega)
          simp (disch := exact znw_u) only [zc_86, zs_86_0, zs_86_1, zs_86_2, zs_86_5, zs_86_6, zs_86_8, zs_86_11, zs_86_12, zs_86_13, zs_86_14, zs_86_15, zs_86_16, zs_86_19, zs_86_20, zs_86_21, zs_86_22, zs_86_23, zs_86_26, zs_86_28, zs_86_29, zs_86_30, zs_86_31, zs_86_34, zs_86_35, zs_86_36, zs_86_37, zs_86_38, zs_86_41, zs_86_43, zs_86_44, zs_86_45, zs_86_46, zs_86_49, zs_86_50, zs_86_51, zs_86_54, zs_86_56, zs_86_58, zs_86_61, if_neg g1, if_neg g2, zTre_rc hf, zTre_rc hf2, d_186 hf hnd, nI_1', e1, zTre_rc (zTre_fr hf f1 (by omega)), d_187 (zTre_fr hf f1 (by omega)) hnd, e2, d_184 hf2 hnd, d_185 hf2 hnd, zTre_rc w2, e3, zbk_v, zts_s]
          rw [yri_mk]
        · rw [ypo_mk, ← List.append_assoc, ← List.append_assoc]
          exact w3
  exact fun t => main (ydp t) t (Nat.le_refl _)
end ZDH

theorem nI_ltn {a b : Nat} (ha : a < 2 ^ 31) (hb : b < 2 ^ 31) : ymx (nI a) (nI b) = nI (max a b) := by
  unfold ymx
  by_cases h : a < b
  · rw [if_pos (nI_lt h hb), Nat.max_eq_right (by omega)]
  · rw [if_neg (nI_nlt (by omega) ha), Nat.max_eq_left (by omega)]
theorem yfo_N : ∀ t : yT, yfo yfN t = nI (ysz t)
  | .leaf => rfl
  | .inner _ k v l r => by
    show nI 1 + yfo yfN l + yfo yfN r = nI (ysz l + ysz r + 1)
    rw [yfo_N l, yfo_N r, nI_add, nI_add]
    congr 1
    omega
theorem yfo_L : ∀ t : yT, ydp t < 2 ^ 31 → yfo yfL t = nI (ydp t)
  | .leaf, _ => rfl
  | .inner _ k v l r, h => by
    have h' : max (ydp l) (ydp r) + 1 < 2 ^ 31 := h
    have m1 := Nat.le_max_left (ydp l) (ydp r)
    have m2 := Nat.le_max_right (ydp l) (ydp r)
    show nI 1 + ymx (yfo yfL l) (yfo yfL r) = nI (max (ydp l) (ydp r) + 1)
    rw [yfo_L l (by omega), yfo_L r (by omega), nI_ltn (by omega) (by omega), nI_add]
    congr 1
    omega
theorem ydp_sz : ∀ t : yT, ydp t ≤ ysz t
  | .leaf => Nat.le_refl _
  | .inner _ k v l r => by
    show max (ydp l) (ydp r) + 1 ≤ ysz l + ysz r + 1
    have := ydp_sz l
    have := ydp_sz r
    omega
/-- equal terms -/
def yeq : yT → yT → Bool
  | .leaf, .leaf => true
  | .inner _ k v l r, .inner _ k' v' l' r' => decide (k = k') && decide (v = v') && yeq l l' && yeq r r'
  | _, _ => false
theorem yeq_mk {k v k' v' : Int32} {l r l' r' : yT} : yeq (ymk k v l r) (ymk k' v' l' r') = (decide (k = k') && decide (v = v') && yeq l l' && yeq r r') := rfl
section ZDI
variable {sv : Nat → Value}
theorem yb_ne {b : Bool} : (yb b = 0) = (b = false) := by
  cases b
  · simp [yb_f]
  · rw [yb_t, nI_1e0]; simp
theorem d_85 {f o m mo : Nat} {h : zH} {ns os : List yN} (hw : ywf ns) (hwo : ywf os) (hf : zTre h f m ns) (ho : zTre h o mo os) : ∀ (t u : yT) (x y : Int32) (D ℓ : Nat), ych ns.length x → ych os.length y → ygt (ytm ns) x = t → ygt (ytm os) y = u → ydp t + 3 ≤ D → ℓ + ydp t ≤ 41 → zcall zP sv D 85 [.ref f, .int x, .ref o, .int y, .int (nI ℓ)] h = some (.inl (some (.int (yb (yeq t u)))), h) := by
  have main : ∀ (n : Nat) (t u : yT), ydp t ≤ n → ∀ (x y : Int32) (D ℓ : Nat), ych ns.length x → ych os.length y → ygt (ytm ns) x = t → ygt (ytm os) y = u → ydp t + 3 ≤ D → ℓ + ydp t ≤ 41 → zcall zP sv D 85 [.ref f, .int x, .ref o, .int y, .int (nI ℓ)] h = some (.inl (some (.int (yb (yeq t u)))), h) := by
    have hl := hw.1
    have hlo := hwo.1
    intro n
    induction n with
    | zero =>
      intro t u hn x y D ℓ hx hy ht hu hD hL
      obtain ⟨d, rfl⟩ : ∃ d, D = d + 1 := ⟨D - 1, by omega⟩
      rcases hx with rfl | ⟨j, hj, rfl⟩
      · rw [ygt_n] at ht
        subst ht
        rcases hy with rfl | ⟨i, hi, rfl⟩
        · rw [ygt_n] at hu
          subst hu
          simp only [zc_85, zs_85_0, zs_85_1, zs_85_2, zs_85_5, zs_85_6, zs_85_7, zs_85_10, zs_85_12, zs_85_14, zs_85_17, zs_85_18, zs_85_19, zs_85_22, zs_85_23, zs_85_24, zs_85_27, zs_85_28, zs_85_31, zs_85_32, zs_85_33, zs_85_34, zs_85_35, zs_85_38, zs_85_39, zs_85_40, zs_85_43, zs_85_46, zs_85_47, zs_85_48, zs_85_51, zs_85_52, zs_85_53, zs_85_56, zs_85_59, zs_85_60, zs_85_61, zs_85_62, zs_85_65, zs_85_66, zs_85_67, zs_85_68, zs_85_71, zs_85_73, zs_85_74, zs_85_75, zs_85_78, zs_85_81, zs_85_82, zs_85_83, zs_85_84, zs_85_87, zs_85_88, zs_85_89, zs_85_90, zs_85_93, zs_85_95, zs_85_96, zs_85_97, zs_85_100, zs_85_103, zs_85_104, zs_85_107, zs_85_108, nI_m1e, ↓reduceIte, zty_51, zgd_t]
          rfl
        · obtain ⟨nd, hnd⟩ := ynd_ex hi
          rw [ygt_at hwo hnd] at hu
          subst hu
          have g1 : ¬ nI i = -1 := nI_nm1 (by omega)
          simp only [zc_85, zs_85_0, zs_85_1, zs_85_2, zs_85_5, zs_85_6, zs_85_7, zs_85_10, zs_85_12, zs_85_14, zs_85_17, zs_85_18, zs_85_19, zs_85_22, zs_85_23, zs_85_24, zs_85_27, zs_85_28, zs_85_31, zs_85_32, zs_85_33, zs_85_34, zs_85_35, zs_85_38, zs_85_39, zs_85_40, zs_85_43, zs_85_46, zs_85_47, zs_85_48, zs_85_51, zs_85_52, zs_85_53, zs_85_56, zs_85_59, zs_85_60, zs_85_61, zs_85_62, zs_85_65, zs_85_66, zs_85_67, zs_85_68, zs_85_71, zs_85_73, zs_85_74, zs_85_75, zs_85_78, zs_85_81, zs_85_82, zs_85_83, zs_85_84, zs_85_87, zs_85_88, zs_85_89, zs_85_90, zs_85_93, zs_85_95, zs_85_96, zs_85_97, zs_85_100, zs_85_103, zs_85_104, zs_85_107, zs_85_108, nI_m1e, if_neg g1, ↓reduceIte, zty_50, zgd_t]
          rfl
      · obtain ⟨nd, hnd⟩ := ynd_ex hj
        rw [ygt_at hw hnd] at ht
        subst ht
        rw [ydp_mk] at hn
        omega
    | succ n ih =>
      intro t u hn x y D ℓ hx hy ht hu hD hL
      obtain ⟨d, rfl⟩ : ∃ d, D = d + 3 := ⟨D - 3, by omega⟩
      rcases hx with rfl | ⟨j, hj, rfl⟩
      · rw [ygt_n] at ht
        subst ht
        rcases hy with rfl | ⟨i, hi, rfl⟩
        · rw [ygt_n] at hu
          subst hu
          simp only [zc_85, zs_85_0, zs_85_1, zs_85_2, zs_85_5, zs_85_6, zs_85_7, zs_85_10, zs_85_12, zs_85_14, zs_85_17, zs_85_18, zs_85_19, zs_85_22, zs_85_23, zs_85_24, zs_85_27, zs_85_28, zs_85_31, zs_85_32, zs_85_33, zs_85_34, zs_85_35, zs_85_38, zs_85_39, zs_85_40, zs_85_43, zs_85_46, zs_85_47, zs_85_48, zs_85_51, zs_85_52, zs_85_53, zs_85_56, zs_85_59, zs_85_60, zs_85_61, zs_85_62, zs_85_65, zs_85_66, zs_85_67, zs_85_68, zs_85_71, zs_85_73, zs_85_74, zs_85_75, zs_85_78, zs_85_81, zs_85_82, zs_85_83, zs_85_84, zs_85_87, zs_85_88, zs_85_89, zs_85_90, zs_85_93, zs_85_95, zs_85_96, zs_85_97, zs_85_100, zs_85_103, zs_85_104, zs_85_107, zs_85_108, nI_m1e, ↓reduceIte, zty_51, zgd_t]
          rfl
        · obtain ⟨nd, hnd⟩ := ynd_ex hi
          rw [ygt_at hwo hnd] at hu
          subst hu
          have g1 : ¬ nI i = -1 := nI_nm1 (by omega)
          simp only [zc_85, zs_85_0, zs_85_1, zs_85_2, zs_85_5, zs_85_6, zs_85_7, zs_85_10, zs_85_12, zs_85_14, zs_85_17, zs_85_18, zs_85_19, zs_85_22, zs_85_23, zs_85_24, zs_85_27, zs_85_28, zs_85_31, zs_85_32, zs_85_33, zs_85_34, zs_85_35, zs_85_38, zs_85_39, zs_85_40, zs_85_43, zs_85_46, zs_85_47, zs_85_48, zs_85_51, zs_85_52, zs_85_53, zs_85_56, zs_85_59, zs_85_60, zs_85_61, zs_85_62, zs_85_65, zs_85_66, zs_85_67, zs_85_68, zs_85_71, zs_85_73, zs_85_74, zs_85_75, zs_85_78, zs_85_81, zs_85_82, zs_85_83, zs_85_84, zs_85_87, zs_85_88, zs_85_89, zs_85_90, zs_85_93, zs_85_95, zs_85_96, zs_85_97, zs_85_100, zs_85_103, zs_85_104, zs_85_107, zs_85_108, nI_m1e, if_neg g1, ↓reduceIte, zty_50, zgd_t]
          rfl
      · obtain ⟨nd, hnd⟩ := ynd_ex hj
        rw [ygt_at hw hnd] at ht
        subst ht
        rw [ydp_mk] at hn hD hL
        have g1 : ¬ nI j = -1 := nI_nm1 (by omega)
        rcases hy with rfl | ⟨i, hi, rfl⟩
        · rw [ygt_n] at hu
          subst hu
          simp only [zc_85, zs_85_0, zs_85_1, zs_85_2, zs_85_5, zs_85_6, zs_85_7, zs_85_10, zs_85_12, zs_85_14, zs_85_17, zs_85_18, zs_85_19, zs_85_22, zs_85_23, zs_85_24, zs_85_27, zs_85_28, zs_85_31, zs_85_32, zs_85_33, zs_85_34, zs_85_35, zs_85_38, zs_85_39, zs_85_40, zs_85_43, zs_85_46, zs_85_47, zs_85_48, zs_85_51, zs_85_52, zs_85_53, zs_85_56, zs_85_59, zs_85_60, zs_85_61, zs_85_62, zs_85_65, zs_85_66, zs_85_67, zs_85_68, zs_85_71, zs_85_73, zs_85_74, zs_85_75, zs_85_78, zs_85_81, zs_85_82, zs_85_83, zs_85_84, zs_85_87, zs_85_88, zs_85_89, zs_85_90, zs_85_93, zs_85_95, zs_85_96, zs_85_97, zs_85_100, zs_85_103, zs_85_104, zs_85_107, zs_85_108, nI_m1e, if_neg g1, ↓reduceIte, zty_50, zgd_t]
          rfl
        · obtain ⟨ne, hne⟩ := ynd_ex hi
          rw [ygt_at hwo hne] at hu
          subst hu
          have g2 : ¬ nI i = -1 := nI_nm1 (by omega)
          have g3 : ¬ nI 40 < nI ℓ := nI_nlt (by omega) (by omega)
          have hc := ych_lt hw hnd
          have hc2 := ych_lt hwo hne
          have m1 := Nat.le_max_left (ydp (ygt (ytm ns) nd.2.2.1)) (ydp (ygt (ytm ns) nd.2.2.2))
          have m2 := Nat.le_max_right (ydp (ygt (ytm ns) nd.2.2.1)) (ydp (ygt (ytm ns) nd.2.2.2))
          have e1 := ih (ygt (ytm ns) nd.2.2.1) (ygt (ytm os) ne.2.2.1) (by omega) nd.2.2.1 ne.2.2.1 (d + 2) (ℓ + 1) hc.1 hc2.1 rfl rfl (by omega) (by omega)
          have e2 := ih (ygt (ytm ns) nd.2.2.2) (ygt (ytm os) ne.2.2.2) (by omega) nd.2.2.2 ne.2.2.2 (d + 2) (ℓ + 1) hc.2 hc2.2 rfl rfl (by omega) (by omega)
          rw [yeq_mk]
          by_cases a1 : nd.1 = ne.1
          · by_cases a2 : nd.2.1 = ne.2.1
            · rw [decide_eq_true a1, decide_eq_true a2]
              cases a3 : yeq (ygt (ytm ns) nd.2.2.1) (ygt (ytm os) ne.2.2.1) with
              | false =>
                rw [a3] at e1
                simp only [zc_85, zs_85_0, zs_85_1, zs_85_2, zs_85_5, zs_85_6, zs_85_7, zs_85_10, zs_85_12, zs_85_14, zs_85_17, zs_85_18, zs_85_19, zs_85_22, zs_85_23, zs_85_24, zs_85_27, zs_85_28, zs_85_31, zs_85_32, zs_85_33, zs_85_34, zs_85_35, zs_85_38, zs_85_39, zs_85_40, zs_85_43, zs_85_46, zs_85_47, zs_85_48, zs_85_51, zs_85_52, zs_85_53, zs_85_56, zs_85_59, zs_85_60, zs_85_61, zs_85_62, zs_85_65, zs_85_66, zs_85_67, zs_85_68, zs_85_71, zs_85_73, zs_85_74, zs_85_75, zs_85_78, zs_85_81, zs_85_82, zs_85_83, zs_85_84, zs_85_87, zs_85_88, zs_85_89, zs_85_90, zs_85_93, zs_85_95, zs_85_96, zs_85_97, zs_85_100, zs_85_103, zs_85_104, zs_85_107, zs_85_108, if_neg g1, if_neg g2, if_neg g3, zTre_rc hf, zTre_rc ho, d_184 hf hnd, d_184 ho hne, d_185 hf hnd, d_185 ho hne, d_186 hf hnd, d_186 ho hne, d_187 hf hnd, d_187 ho hne, if_pos a1, if_pos a2, nI_1', e1, yb_f, zbk_v, zts_s, zgd_t, zty_50, ↓reduceIte]
                rfl
              | true =>
                rw [a3] at e1
                cases a4 : yeq (ygt (ytm ns) nd.2.2.2) (ygt (ytm os) ne.2.2.2) with
                | false =>
                  rw [a4] at e2
                  simp only [zc_85, zs_85_0, zs_85_1, zs_85_2, zs_85_5, zs_85_6, zs_85_7, zs_85_10, zs_85_12, zs_85_14, zs_85_17, zs_85_18, zs_85_19, zs_85_22, zs_85_23, zs_85_24, zs_85_27, zs_85_28, zs_85_31, zs_85_32, zs_85_33, zs_85_34, zs_85_35, zs_85_38, zs_85_39, zs_85_40, zs_85_43, zs_85_46, zs_85_47, zs_85_48, zs_85_51, zs_85_52, zs_85_53, zs_85_56, zs_85_59, zs_85_60, zs_85_61, zs_85_62, zs_85_65, zs_85_66, zs_85_67, zs_85_68, zs_85_71, zs_85_73, zs_85_74, zs_85_75, zs_85_78, zs_85_81, zs_85_82, zs_85_83, zs_85_84, zs_85_87, zs_85_88, zs_85_89, zs_85_90, zs_85_93, zs_85_95, zs_85_96, zs_85_97, zs_85_100, zs_85_103, zs_85_104, zs_85_107, zs_85_108, if_neg g1, if_neg g2, if_neg g3, zTre_rc hf, zTre_rc ho, d_184 hf hnd, d_184 ho hne, d_185 hf hnd, d_185 ho hne, d_186 hf hnd, d_186 ho hne, d_187 hf hnd, d_187 ho hne, if_pos a1, if_pos a2, nI_1', e1, e2, yb_f, yb_t, nI_1e0, zbk_v, zts_s, zgd_t, zty_50, ↓reduceIte]
                  rfl
                | true =>
                  rw [a4] at e2
                  simp only [zc_85, zs_85_0, zs_85_1, zs_85_2, zs_85_5, zs_85_6, zs_85_7, zs_85_10, zs_85_12, zs_85_14, zs_85_17, zs_85_18, zs_85_19, zs_85_22, zs_85_23, zs_85_24, zs_85_27, zs_85_28, zs_85_31, zs_85_32, zs_85_33, zs_85_34, zs_85_35, zs_85_38, zs_85_39, zs_85_40, zs_85_43, zs_85_46, zs_85_47, zs_85_48, zs_85_51, zs_85_52, zs_85_53, zs_85_56, zs_85_59, zs_85_60, zs_85_61, zs_85_62, zs_85_65, zs_85_66, zs_85_67, zs_85_68, zs_85_71, zs_85_73, zs_85_74, zs_85_75, zs_85_78, zs_85_81, zs_85_82, zs_85_83, zs_85_84, zs_85_87, zs_85_88, zs_85_89, zs_85_90, zs_85_93, zs_85_95, zs_85_96, zs_85_97, zs_85_100, zs_85_103, zs_85_104, zs_85_107, zs_85_108, if_neg g1, if_neg g2, if_neg g3, zTre_rc hf, zTre_rc ho, d_184 hf hnd, d_184 ho hne, d_185 hf hnd, d_185 ho hne, d_186 hf hnd, d_186 ho hne, d_187 hf hnd, d_187 ho hne, if_pos a1, if_pos a2, nI_1', e1, e2, yb_t, nI_1e0, zbk_v, zts_s, zgd_t, zty_51, ↓reduceIte]
                  rfl
            · rw [decide_eq_false a2]
              simp only [zc_85, zs_85_0, zs_85_1, zs_85_2, zs_85_5, zs_85_6, zs_85_7, zs_85_10, zs_85_12, zs_85_14, zs_85_17, zs_85_18, zs_85_19, zs_85_22, zs_85_23, zs_85_24, zs_85_27, zs_85_28, zs_85_31, zs_85_32, zs_85_33, zs_85_34, zs_85_35, zs_85_38, zs_85_39, zs_85_40, zs_85_43, zs_85_46, zs_85_47, zs_85_48, zs_85_51, zs_85_52, zs_85_53, zs_85_56, zs_85_59, zs_85_60, zs_85_61, zs_85_62, zs_85_65, zs_85_66, zs_85_67, zs_85_68, zs_85_71, zs_85_73, zs_85_74, zs_85_75, zs_85_78, zs_85_81, zs_85_82, zs_85_83, zs_85_84, zs_85_87, zs_85_88, zs_85_89, zs_85_90, zs_85_93, zs_85_95, zs_85_96, zs_85_97, zs_85_100, zs_85_103, zs_85_104, zs_85_107, zs_85_108, if_neg g1, if_neg g2, if_neg g3, zTre_rc hf, zTre_rc ho, d_184 hf hnd, d_184 ho hne, d_185 hf hnd, d_185 ho hne, if_pos a1, if_neg a2, zbk_v, zts_s, zgd_t, zty_50, ↓reduceIte, Bool.and_false, Bool.false_and, yb_f]
          · rw [decide_eq_false a1]
            simp only [zc_85, zs_85_0, zs_85_1, zs_85_2, zs_85_5, zs_85_6, zs_85_7, zs_85_10, zs_85_12, zs_85_14, zs_85_17, zs_85_18, zs_85_19, zs_85_22, zs_85_23, zs_85_24, zs_85_27, zs_85_28, zs_85_31, zs_85_32, zs_85_33, zs_85_34, zs_85_35, zs_85_38, zs_85_39, zs_85_40, zs_85_43, zs_85_46, zs_85_47, zs_85_48, zs_85_51, zs_85_52, zs_85_53, zs_85_56, zs_85_59, zs_85_60, zs_85_61, zs_85_62, zs_85_65, zs_85_66, zs_85_67, zs_85_68, zs_85_71, zs_85_73, zs_85_74, zs_85_75, zs_85_78, zs_85_81, zs_85_82, zs_85_83, zs_85_84, zs_85_87, zs_85_88, zs_85_89, zs_85_90, zs_85_93, zs_85_95, zs_85_96, zs_85_97, zs_85_100, zs_85_103, zs_85_104, zs_85_107, zs_85_108, if_neg g1, if_neg g2, if_neg g3, zTre_rc hf, zTre_rc ho, d_184 hf hnd, d_184 ho hne, if_neg a1, zbk_v, zts_s, zgd_t, zty_50, ↓reduceIte, Bool.false_and, yb_f]
  exact fun t u => main (ydp t) t u (Nat.le_refl _)
end ZDI

theorem zaln_l {kd : Nat} {vs : List Value} {K : Int32 → zR} (hk : 20 ≤ kd) : zaln (kd, vs) K = K (nI vs.length) := zaln_k hk
/-- a State at s: its formulas' addresses, letters, machine, removed -/
def ygv (as : List Nat) (j : Nat) : Value := match as[j]? with
  | some a => .ref a
  | none => .null
abbrev yS : Type := List Nat × List Int32 × Int32 × Int32
def zSta (h : zH) (s : Nat) (S : yS) : Prop := h.1 s = (3, [.ref (s + 1), .int (nI S.1.length), .ref (s + 2), .int S.2.2.1, .int S.2.2.2]) ∧ (∃ F, h.1 (s + 1) = (25, F) ∧ F.length = 6 ∧ ∀ j, j < 6 → F[j]? = some (ygv S.1 j)) ∧ zRow h (s + 2) S.2.1 ∧ S.2.1.length = 6 ∧ S.1.length ≤ 6
def zK6 (h : zH) (as : List Nat) : Prop := ∀ a, a ∈ as → ∃ vs, h.1 a = (6, vs)
theorem zSta_fr {h h' : zH} {lo hi s : Nat} {S : yS} (hs : zSta h s S) (hf : zfr lo hi h h') (hq : s + 4 ≤ lo ∨ hi ≤ s) : zSta h' s S := by
  obtain ⟨h1, ⟨F, h2, h3⟩, h4, h5⟩ := hs
  exact ⟨by rw [hf.1 s (by omega), h1], ⟨F, by rw [hf.1 (s + 1) (by omega), h2], h3⟩, zRow_fr h4 hf (by omega), h5⟩
theorem zSta_rc {h : zH} {s : Nat} {S : yS} {X : zR} (hs : zSta h s S) : zrc (h.1 s) 3 X = X := by
  rw [hs.1]
  exact zrc_k
theorem ygv_k {as : List Nat} {j a : Nat} (h : as[j]? = some a) : ygv as j = .ref a := by
  unfold ygv
  rw [h]
theorem ygv_n {as : List Nat} {j : Nat} (h : as[j]? = none) : ygv as j = .null := by
  unfold ygv
  rw [h]
theorem zK6_fr {h h' : zH} {lo hi : Nat} {as : List Nat} (hs : zK6 h as) (hf : zfr lo hi h h') (hq : ∀ a, a ∈ as → a < lo ∨ hi ≤ a) : zK6 h' as := fun a ha => by
  obtain ⟨vs, e⟩ := hs a ha
  exact ⟨vs, by rw [hf.1 a (hq a ha), e]⟩
theorem zasr_6 {F vs : List Value} {i b : Nat} {K : zC → zR} (hi : i < F.length) (h2 : i < 2 ^ 31) : zasr (25, F) (6, vs) 25 6 (nI i) b K = K (25, F.set i (.ref b)) := zasr_k hi h2
theorem zaelv {F : List Value} {kd i : Nat} {v : Value} {K : Value → zR} (hv : F[i]? = some v) (h2 : i < 2 ^ 31) : zael (kd, F) kd (nI i) K = K v := zael_k hv h2
section ZDJ
variable {sv : Nat → Value} {d : Nat}
theorem d_173k {h : zH} {s i a : Nat} {S : yS} (hs : zSta h s S) (hi : S.1[i]? = some a) : zcall zP sv (d + 1) 173 [.ref s, .int (nI i)] h = some (.inl (some (.ref a)), h) := by
  have h0 := (List.getElem?_eq_some_iff.mp hi).1
  obtain ⟨h1, ⟨F, h2, h3, h4⟩, _, _, h6⟩ := hs
  have e1 := h4 i (by omega)
  rw [ygv_k hi] at e1
  rw [zc_173, zs_173_0, zs_173_1, if_neg (nI_pos (by omega)), zs_173_4, zs_173_5, zs_173_6, h1, zf_3_1, zs_173_9, if_pos (nI_lt h0 (by omega)), zs_173_12, zs_173_13, zs_173_14, h1, zf_3_0, zs_173_17, h2, zaln_k (by decide), zs_173_18, h3, if_pos (nI_lt (by omega) (by omega)), zs_173_21, zs_173_22, h1, zf_3_0, zs_173_25, zs_173_26, h2, zaelv e1 (by omega), zs_173_27, zs_173_31]
theorem d_173n {h : zH} {s : Nat} {x : Int32} {S : yS} (hs : zSta h s S) (hx : x < 0 ∨ ¬ x < nI S.1.length) : zcall zP sv (d + 1) 173 [.ref s, .int x] h = some (.inl (some .null), h) := by
  obtain ⟨h1, _⟩ := hs
  by_cases g : x < 0
  · rw [zc_173, zs_173_0, zs_173_1, if_pos g, zs_173_30, zs_173_31n]
  · have g2 := hx.resolve_left g
    rw [zc_173, zs_173_0, zs_173_1, if_neg g, zs_173_4, zs_173_5, zs_173_6, h1, zf_3_1, zs_173_9, if_neg g2, zs_173_30, zs_173_31n]
theorem d_175 {h : zH} {r i b : Nat} {F : List Value} {w1 w2 w3 w4 : Value} (h1 : h.1 r = (3, [.ref (r + 1), w1, w2, w3, w4])) (h2 : h.1 (r + 1) = (25, F)) (h3 : F.length = 6) (hi : i < 6) (hb : ∃ vs, h.1 b = (6, vs)) : zcall zP sv (d + 1) 175 [.ref r, .int (nI i), .ref b] h = some (.inl none, zup h (r + 1) (25, F.set i (.ref b))) := by
  obtain ⟨vs, hb⟩ := hb
  rw [zc_175, zs_175_0, zs_175_1, if_neg (nI_pos (by omega)), zs_175_4, zs_175_5, zs_175_6, h1, zf_3_0, zs_175_9, h2, zaln_k (by decide), zs_175_10, h3, if_pos (nI_lt hi (by omega)), zs_175_13, zs_175_14, h1, zf_3_0, zs_175_17, zs_175_18, zs_175_19, h2, hb, zasr_6 (by omega) (by omega), zs_175_20]
theorem d_174 {h : zH} {s b : Nat} {S : yS} (hs : zSta h s S) (hl : S.1.length < 6) (hb : ∃ vs, h.1 b = (6, vs)) (hd : b < s ∨ s + 4 ≤ b) : ∃ h', zcall zP sv (d + 2) 174 [.ref s, .ref b] h = some (.inl (some (.int (nI S.1.length))), h') ∧ zSta h' s (S.1 ++ [b], S.2) ∧ zfr s (s + 4) h h' := by
  obtain ⟨h1, ⟨F, h2, h3, h4⟩, h5, h6, h7⟩ := hs
  obtain ⟨vs, hb⟩ := hb
  have a1 : (zup h s (3, [.ref (s + 1), .int (nI (S.1.length + 1)), .ref (s + 2), .int S.2.2.1, .int S.2.2.2])).1 (s + 1) = (25, F) := by rw [zup_ne (by omega), h2]
  have e1 := d_175 (sv := sv) (d := d) (i := S.1.length) (b := b) (zup_at (h := h) (a := s) (c := (3, [.ref (s + 1), .int (nI (S.1.length + 1)), .ref (s + 2), .int S.2.2.1, .int S.2.2.2]))) a1 h3 hl ⟨vs, by rw [zup_ne (by omega), hb]⟩
  have hl2 : (S.1 ++ [b]).length = S.1.length + 1 := by rw [List.length_append]; rfl
  have hsb : nI (S.1.length + 1) - nI 1 = nI S.1.length := by rw [← nI_add, Int32.add_sub_cancel]
  refine ⟨_, ?_, ⟨by rw [zup_ne (by omega), zup_at, hl2], ⟨F.set S.1.length (.ref b), zup_at, by rw [List.length_set, h3], fun j hj => ?_⟩, zRow_up (zRow_up h5 (by omega) (by omega)) (by omega) (by omega), h6, by rw [hl2]; omega⟩, zfr_tr (zfr_up (c := (3, [.ref (s + 1), .int (nI (S.1.length + 1)), .ref (s + 2), .int S.2.2.1, .int S.2.2.2])) (by omega) (by omega)) (zfr_up (by omega) (by omega))⟩
  · simp only [zc_174, zs_174_0, zs_174_0n, zs_174_1, zs_174_2, zs_174_5, zs_174_6, zs_174_7, zs_174_10, zs_174_10n, zs_174_11, zs_174_11n, zs_174_12, zs_174_15, zs_174_16, zs_174_17, zs_174_17n, zs_174_18, zs_174_21, zs_174_21n, zs_174_22, zs_174_25, zs_174_26, zs_174_27, h1, zrc_3, zf_3_0, zp_3_0, zp_3_0n, zf_3_1, zp_3_1, zf_3_2, zp_3_2, zp_3_2n, zf_3_3, zp_3_3, zf_3_4, zp_3_4, zup_at, nI_1', hsb, e1, zup_ne (show s ≠ s + 1 by omega), zbk_v, zts_s, zts_n]
  · by_cases hj2 : j = S.1.length
    · subst hj2
      rw [List.getElem?_set_self (by omega), ygv_k]
      rw [List.getElem?_append_right (Nat.le_refl _), Nat.sub_self]
      rfl
    · rw [List.getElem?_set_ne (by omega), h4 j hj]
      unfold ygv
      by_cases hj3 : j < S.1.length
      · rw [List.getElem?_append_left hj3]
      · rw [List.getElem?_eq_none (by omega), List.getElem?_eq_none (by rw [hl2]; omega)]
end ZDJ

theorem ygv_er {as : List Nat} {i j : Nat} (hi : i < as.length) : ygv (as.eraseIdx i) j = if j < i then ygv as j else ygv as (j + 1) := by
  unfold ygv
  rw [List.getElem?_eraseIdx]
  by_cases h : j < i
  · rw [if_pos h, if_pos h]
  · rw [if_neg h, if_neg h]
theorem ygv_mem {as : List Nat} {j : Nat} : ygv as j = .null ∨ ∃ a, a ∈ as ∧ ygv as j = .ref a := by
  unfold ygv
  cases h : as[j]? with
  | none => exact Or.inl rfl
  | some a => exact Or.inr ⟨a, List.mem_of_getElem? h, rfl⟩
section ZDK
variable {sv : Nat → Value} {d : Nat}
/-- replace by what formula answers -/
theorem d_175v {h : zH} {r i : Nat} {v : Value} {F : List Value} {w1 w2 w3 w4 : Value} (h1 : h.1 r = (3, [.ref (r + 1), w1, w2, w3, w4])) (h2 : h.1 (r + 1) = (25, F)) (h3 : F.length = 6) (hi : i < 6) (hb : v = .null ∨ ∃ b vs, v = .ref b ∧ h.1 b = (6, vs)) : zcall zP sv (d + 1) 175 [.ref r, .int (nI i), v] h = some (.inl none, zup h (r + 1) (25, F.set i v)) := by
  rcases hb with rfl | ⟨b, vs, rfl, hb⟩
  · have e0 : zcall zP sv (d + 1) 175 [.ref r, .int (nI i), .null] h = zrun zP sv (zcall zP sv d) 175 0 [.val (.ref r), .val (.int (nI i)), .val .null] [] h := zcall_s (n := 3) rfl rfl (Nat.le_of_ble_eq_true rfl)
    rw [e0, zs_175_0, zs_175_1, if_neg (nI_pos (by omega)), zs_175_4, zs_175_5, zs_175_6, h1, zf_3_0, zs_175_9, h2, zaln_k (by decide), zs_175_10, h3, if_pos (nI_lt hi (by omega)), zs_175_13, zs_175_14, h1, zf_3_0, zs_175_17, zs_175_18n, zs_175_19n, h2, zasn_k (by omega) (by omega), zs_175_20]
  · exact d_175 h1 h2 h3 hi ⟨vs, hb⟩
theorem d_173v {h : zH} {s i : Nat} {S : yS} (hs : zSta h s S) (hi : i < 2 ^ 31) : zcall zP sv (d + 1) 173 [.ref s, .int (nI i)] h = some (.inl (some (ygv S.1 i)), h) := by
  have hl := hs.2.2.2.2
  cases hc : S.1[i]? with
  | some a => rw [ygv_k hc]; exact d_173k hs hc
  | none =>
    rw [ygv_n hc]
    have := List.getElem?_eq_none_iff.mp hc
    exact d_173n hs (Or.inr (nI_nlt this hi))
theorem d_176l {s i : Nat} {S : yS} (hi : i < S.1.length) (hl : S.1.length ≤ 6) : ∀ n k (h : zH) (F : List Value), k + n = S.1.length → i ≤ k → h.1 s = (3, [.ref (s + 1), .int (nI S.1.length), .ref (s + 2), .int S.2.2.1, .int S.2.2.2]) → h.1 (s + 1) = (25, F) → F.length = 6 → (∀ j, j < 6 → F[j]? = some (if i ≤ j ∧ j < k then ygv S.1 (j + 1) else ygv S.1 j)) → zK6 h S.1 → (∀ a, a ∈ S.1 → a ≠ s + 1) → ∃ F', zrun zP sv (zcall zP sv (d + 1)) 176 2 [.val (.ref s), .val (.int (nI i)), .val (.int (nI k))] [] h = zrun zP sv (zcall zP sv (d + 1)) 176 28 [.val (.ref s), .val (.int (nI i)), .val (.int (nI S.1.length))] [] (zup h (s + 1) (25, F')) ∧ F'.length = 6 ∧ ∀ j, j < 6 → F'[j]? = some (if i ≤ j ∧ j < S.1.length then ygv S.1 (j + 1) else ygv S.1 j) := by
  intro n
  induction n with
  | zero =>
    intro k h F hk hik h1 h2 h3 h4 h5 h6
    obtain rfl : k = S.1.length := by omega
    refine ⟨F, ?_, h3, h4⟩
    rw [zs_176_2, zs_176_3, zs_176_4, h1, zf_3_1, zs_176_7, if_neg (nI_nlt (Nat.le_refl _) (by omega)), zup_self h2]
  | succ n ih =>
    intro k h F hk hik h1 h2 h3 h4 h5 h6
    have hg : zcall zP sv (d + 1) 173 [.ref s, .int (nI (k + 1))] h = some (.inl (some (ygv S.1 (k + 1))), h) := by
      cases hc : S.1[k + 1]? with
      | some a =>
        have hka := (List.getElem?_eq_some_iff.mp hc).1
        rw [ygv_k hc]
        have e4 := h4 (k + 1) (by omega)
        rw [if_neg (by omega), ygv_k hc] at e4
        rw [zc_173, zs_173_0, zs_173_1, if_neg (nI_pos (by omega)), zs_173_4, zs_173_5, zs_173_6, h1, zf_3_1, zs_173_9, if_pos (nI_lt hka (by omega)), zs_173_12, zs_173_13, zs_173_14, h1, zf_3_0, zs_173_17, h2, zaln_k (by decide), zs_173_18, h3, if_pos (nI_lt (by omega) (by omega)), zs_173_21, zs_173_22, h1, zf_3_0, zs_173_25, zs_173_26, h2, zaelv e4 (by omega), zs_173_27, zs_173_31]
      | none =>
        have hka := List.getElem?_eq_none_iff.mp hc
        rw [ygv_n hc]
        rw [zc_173, zs_173_0, zs_173_1, if_neg (nI_pos (by omega)), zs_173_4, zs_173_5, zs_173_6, h1, zf_3_1, zs_173_9, if_neg (nI_nlt (by omega) (by omega)), zs_173_30, zs_173_31n]
    have hb : ygv S.1 (k + 1) = .null ∨ ∃ b vs, ygv S.1 (k + 1) = .ref b ∧ h.1 b = (6, vs) := by
      rcases ygv_mem (as := S.1) (j := k + 1) with e | ⟨a, ha, e⟩
      · exact Or.inl e
      · obtain ⟨vs, hv⟩ := h5 a ha
        exact Or.inr ⟨a, vs, e, hv⟩
    have e1 := d_175v (sv := sv) (d := d) (i := k) h1 h2 h3 (by omega) hb
    obtain ⟨F', e2, w1, w2⟩ := ih (k + 1) (zup h (s + 1) (25, F.set k (ygv S.1 (k + 1)))) (F.set k (ygv S.1 (k + 1))) (by omega) (by omega) (by rw [zup_ne (by omega), h1]) zup_at (by rw [List.length_set, h3]) (fun j hj => by
      by_cases hjk : j = k
      · subst hjk
        rw [List.getElem?_set_self (by omega), if_pos (by omega)]
      · rw [List.getElem?_set_ne (Ne.symm hjk), h4 j hj]
        by_cases hc : i ≤ j ∧ j < k
        · rw [if_pos hc, if_pos (by omega)]
        · rw [if_neg hc, if_neg (by omega)]) (fun a ha => by
      obtain ⟨vs, hv⟩ := h5 a ha
      exact ⟨vs, by rw [zup_ne (h6 a ha), hv]⟩) h6
    rw [zup_up] at e2
    refine ⟨F', ?_, w1, w2⟩
    have hrc : zrc (h.1 s) 3 = fun X => X := by
      funext X
      rw [h1]
      exact zrc_k
    rcases hb with e | ⟨b, vs, e, hv⟩
    · rw [e] at hg e1 e2
      rw [zs_176_2, zs_176_3, zs_176_4, h1, zf_3_1, zs_176_7, if_pos (nI_lt (by omega) (by omega)), zs_176_10, zs_176_11, zs_176_12, zs_176_13, zs_176_14, zs_176_15, zs_176_16, hrc, nI_1', hg, zbk_v, zts_s, zs_176_19, hrc, e1, zbk_v, zts_n, zs_176_22, zs_176_25, nI_1', e2]
    · rw [e] at hg e1 e2
      rw [zs_176_2, zs_176_3, zs_176_4, h1, zf_3_1, zs_176_7, if_pos (nI_lt (by omega) (by omega)), zs_176_10, zs_176_11, zs_176_12, zs_176_13, zs_176_14, zs_176_15, zs_176_16, hrc, nI_1', hg, zbk_v, zts_s, zs_176_19, hrc, e1, zbk_v, zts_n, zs_176_22, zs_176_25, nI_1', e2]
theorem d_176 {h : zH} {s i : Nat} {S : yS} (hs : zSta h s S) (hi : i < S.1.length) (h5 : zK6 h S.1) (h6 : ∀ a, a ∈ S.1 → a ≠ s + 1) : ∃ h', zcall zP sv (d + 2) 176 [.ref s, .int (nI i)] h = some (.inl none, h') ∧ zSta h' s (S.1.eraseIdx i, S.2) ∧ zfr s (s + 4) h h' := by
  obtain ⟨h1, ⟨F, h2, h3, h4⟩, h7, h8, h9⟩ := hs
  obtain ⟨F', e1, w1, w2⟩ := d_176l (sv := sv) (d := d) hi h9 (S.1.length - i) i h F (by omega) (Nat.le_refl _) h1 h2 h3 (fun j hj => by rw [if_neg (by omega), h4 j hj]) h5 h6
  have hle : (S.1.eraseIdx i).length = S.1.length - 1 := by rw [List.length_eraseIdx, if_pos hi]
  have hsb : nI S.1.length - nI 1 = nI (S.1.length - 1) := by
    conv => lhs; rw [show S.1.length = S.1.length - 1 + 1 by omega, ← nI_add, Int32.add_sub_cancel]
  refine ⟨zup (zup h (s + 1) (25, F')) s (3, [.ref (s + 1), .int (nI (S.1.length - 1)), .ref (s + 2), .int S.2.2.1, .int S.2.2.2]), ?_, ⟨by rw [zup_at, hle], ⟨F', by rw [zup_ne (by omega), zup_at], w1, fun j hj => ?_⟩, zRow_up (zRow_up h7 (by omega) (by omega)) (by omega) (by omega), h8, by rw [hle]; omega⟩, zfr_tr (zfr_up (c := (25, F')) (by omega) (by omega)) (zfr_up (by omega) (by omega))⟩
  · have g1 : (zup h (s + 1) (25, F')).1 s = (3, [.ref (s + 1), .int (nI S.1.length), .ref (s + 2), .int S.2.2.1, .int S.2.2.2]) := by rw [zup_ne (by omega), h1]
    rw [zc_176, zs_176_0, zs_176_1 znw_u, e1, zs_176_28, zs_176_29, zs_176_30, g1, zf_3_1, zs_176_33, zs_176_34, hsb, zs_176_35, g1, zp_3_1, zs_176_38]
  · rw [w2 j hj, ygv_er hi]
    by_cases hc : j < i
    · rw [if_pos hc, if_neg (by omega)]
    · rw [if_neg hc]
      by_cases hc2 : j < S.1.length
      · rw [if_pos ⟨by omega, hc2⟩]
      · rw [if_neg (by omega), ygv_n (List.getElem?_eq_none_iff.mpr (by omega)), ygv_n (List.getElem?_eq_none_iff.mpr (by omega))]
theorem d_180l {r s : Nat} {S : yS} {w1 w2 w3 w4 : Value} (hd : r + 4 ≤ s ∨ s + 4 ≤ r) : ∀ n i (h : zH) (F : List Value), i + n = 6 → h.1 r = (3, [.ref (r + 1), w1, w2, w3, w4]) → h.1 (r + 1) = (25, F) → F.length = 6 → (∀ j, j < i → F[j]? = some (ygv S.1 j)) → zSta h s S → zK6 h S.1 → (∀ a, a ∈ S.1 → a ≠ r + 1) → ∃ F', zrun zP sv (zcall zP sv (d + 1)) 180 10 [.val (.ref r), .val (.ref s), .val (.int (nI i))] [] h = zrun zP sv (zcall zP sv (d + 1)) 180 36 [.val (.ref r), .val (.ref s), .val (.int (nI 6))] [] (zup h (r + 1) (25, F')) ∧ F'.length = 6 ∧ ∀ j, j < 6 → F'[j]? = some (ygv S.1 j) := by
  intro n
  induction n with
  | zero =>
    intro i h F hin hr hf hF he hs h5 h6
    obtain rfl : i = 6 := by omega
    refine ⟨F, ?_, hF, he⟩
    rw [zs_180_10, zs_180_11, zs_180_12, hr, zf_3_0, zs_180_15, hf, zaln_k (by decide), zs_180_16, hF, if_neg (nI_nlt (by omega) (by omega)), zup_self hf]
  | succ n ih =>
    intro i h F hin hr hf hF he hs h5 h6
    have e1 := d_173v (sv := sv) (d := d) (i := i) hs (by omega)
    obtain ⟨F', e2, w1, w2⟩ := ih (i + 1) (zup h (r + 1) (25, F.set i (ygv S.1 i))) (F.set i (ygv S.1 i)) (by omega) (by rw [zup_ne (by omega), hr]) zup_at (by rw [List.length_set, hF]) (fun j hj => by
      by_cases hjk : j = i
      · subst hjk
        rw [List.getElem?_set_self (by omega)]
      · rw [List.getElem?_set_ne (Ne.symm hjk), he j (by omega)]) (zSta_fr hs (zfr_up (lo := r) (hi := r + 4) (by omega) (by omega)) (by omega)) (fun a ha => by
      obtain ⟨vs, hv⟩ := h5 a ha
      exact ⟨vs, by rw [zup_ne (h6 a ha), hv]⟩) h6
    rw [zup_up] at e2
    refine ⟨F', ?_, w1, w2⟩
    rcases ygv_mem (as := S.1) (j := i) with e | ⟨a, ha, e⟩
    · rw [e] at e1 e2
      rw [zs_180_10, zs_180_11, zs_180_12, hr, zf_3_0, zs_180_15, hf, zaln_k (by decide), zs_180_16, hF, if_pos (nI_lt (by omega) (by omega)), zs_180_19, zs_180_20, hr, zf_3_0, zs_180_23, zs_180_24, zs_180_25, zs_180_26, zSta_rc hs, e1, zbk_v, zts_s, zs_180_29n, hf, zasn_k (by omega) (by omega), zs_180_30, zs_180_33, nI_1', e2]
    · obtain ⟨vs, hv⟩ := h5 a ha
      rw [e] at e1 e2
      rw [zs_180_10, zs_180_11, zs_180_12, hr, zf_3_0, zs_180_15, hf, zaln_k (by decide), zs_180_16, hF, if_pos (nI_lt (by omega) (by omega)), zs_180_19, zs_180_20, hr, zf_3_0, zs_180_23, zs_180_24, zs_180_25, zs_180_26, zSta_rc hs, e1, zbk_v, zts_s, zs_180_29, hf, hv, zasr_6 (by omega) (by omega), zs_180_30, zs_180_33, nI_1', e2]
theorem d_167l {r t : Nat} {A : List Int32} (hd : r + 2 ≤ t ∨ t + 2 ≤ r) : ∀ n i (h : zH) (B : List Int32), i + n = A.length → zRow h r B → zRow h t A → B.length = A.length → (∀ j, j < i → B[j]? = A[j]?) → zrun zP sv (zcall zP sv (d + 1)) 167 2 [.val (.ref r), .val (.ref t), .val (.int (nI i))] [] h = some (.inl none, zup h (r + 1) (20, A.map Value.int)) := by
  intro n
  induction n with
  | zero =>
    intro i h B hin hr ht hB he
    obtain rfl : i = A.length := by omega
    have hl := ht.2.2
    have e0 : B = A := List.ext_getElem? fun j => by
      by_cases hj : j < A.length
      · exact he j hj
      · rw [List.getElem?_eq_none (by omega), List.getElem?_eq_none (by omega)]
    subst e0
    rw [zs_167_2, zs_167_3, zs_167_4, hr.1, zf_4_0, zs_167_7, hr.2.1, zaln_k (by decide), List.length_map, zs_167_8, if_neg (nI_nlt (Nat.le_refl _) hl), zs_167_28, zup_self hr.2.1]
  | succ n ih =>
    intro i h B hin hr ht hB he
    have hl := ht.2.2
    have hA : A[i]? = some (A.getD i 0) := by rw [List.getD_eq_getElem?_getD, List.getElem?_eq_getElem (by omega)]; rfl
    have e1 : zrun zP sv (zcall zP sv (d + 1)) 167 2 [.val (.ref r), .val (.ref t), .val (.int (nI i))] [] h = zrun zP sv (zcall zP sv (d + 1)) 167 2 [.val (.ref r), .val (.ref t), .val (.int (nI (i + 1)))] [] (zup h (r + 1) (20, (B.set i (A.getD i 0)).map Value.int)) := by
      rw [zs_167_2, zs_167_3, zs_167_4, hr.1, zf_4_0, zs_167_7, hr.2.1, zaln_k (by decide), List.length_map, hB, zs_167_8, if_pos (nI_lt (by omega) hl), zs_167_11, zs_167_12, hr.1, zf_4_0, zs_167_15, zs_167_16, zs_167_17, zs_167_18, zRow_rc ht, d_165 ht, yg_k (by omega), zbk_v, zts_s, zs_167_21, hr.2.1, zaset_k (by rw [List.length_map]; omega) (by omega), ← List.map_set, zs_167_22, zs_167_25, nI_1']
    rw [e1, ih (i + 1) _ (B.set i (A.getD i 0)) (by omega) (zRow_new hr (by rw [List.length_set])) (zRow_up ht (by omega) (by omega)) (by rw [List.length_set, hB]) (fun j hj => ?_), zup_up]
    by_cases hj2 : j = i
    · subst hj2
      rw [List.getElem?_set_self (by omega), hA]
    · rw [List.getElem?_set_ne (by omega), he j (by omega)]
theorem d_167 {h : zH} {r t : Nat} {A B : List Int32} (hr : zRow h r B) (ht : zRow h t A) (hd : r + 2 ≤ t ∨ t + 2 ≤ r) (hB : B.length = A.length) : zcall zP sv (d + 2) 167 [.ref r, .ref t] h = some (.inl none, zup h (r + 1) (20, A.map Value.int)) := by
  have e1 := d_167l (sv := sv) (d := d) hd A.length 0 h B (Nat.zero_add _) hr ht hB (fun j hj => absurd hj (Nat.not_lt_zero j))
  rw [nI_0] at e1
  rw [zc_167, zs_167_0, zs_167_1 znw_u, e1]
theorem d_180 {h : zH} {r s : Nat} {R S : yS} (hr : zSta h r R) (hs : zSta h s S) (hd : r + 4 ≤ s ∨ s + 4 ≤ r) (h5 : zK6 h S.1) (h6 : ∀ a, a ∈ S.1 → a < r ∨ r + 4 ≤ a) : ∃ h', zcall zP sv (d + 3) 180 [.ref r, .ref s] h = some (.inl none, h') ∧ zSta h' r S ∧ zfr r (r + 4) h h' := by
  obtain ⟨r1, ⟨F, r2, r3, r4⟩, r5, r6, r7⟩ := hr
  have f1 : zfr r (r + 4) h (zup h r (3, [.ref (r + 1), .int (nI S.1.length), .ref (r + 2), .int R.2.2.1, .int R.2.2.2])) := zfr_up (by omega) (by omega)
  have a0 : (zup h r (3, [.ref (r + 1), .int (nI S.1.length), .ref (r + 2), .int R.2.2.1, .int R.2.2.2])).1 r = (3, [.ref (r + 1), .int (nI S.1.length), .ref (r + 2), .int R.2.2.1, .int R.2.2.2]) := zup_at
  have a1 := zSta_fr hs f1 (by omega)
  have b5 := zRow_up (a := r) (c := (3, [.ref (r + 1), .int (nI S.1.length), .ref (r + 2), .int R.2.2.1, .int R.2.2.2])) r5 (by omega) (by omega)
  have a5 : zK6 (zup h r (3, [.ref (r + 1), .int (nI S.1.length), .ref (r + 2), .int R.2.2.1, .int R.2.2.2])) S.1 := zK6_fr h5 f1 h6
  obtain ⟨F', e1, w1, w2⟩ := d_180l (sv := sv) (d := d + 1) hd 6 0 _ F rfl a0 (by rw [zup_ne (by omega), r2]) r3 (fun j hj => absurd hj (Nat.not_lt_zero j)) a1 a5 (fun a ha => by have := h6 a ha; omega)
  rw [nI_0] at e1
  have f2 := zfr_tr f1 (zfr_up (c := (25, F')) (show r ≤ r + 1 by omega) (by omega))
  have c0 : (zup (zup h r (3, [.ref (r + 1), .int (nI S.1.length), .ref (r + 2), .int R.2.2.1, .int R.2.2.2])) (r + 1) (25, F')).1 r = (3, [.ref (r + 1), .int (nI S.1.length), .ref (r + 2), .int R.2.2.1, .int R.2.2.2]) := by rw [zup_ne (by omega), zup_at]
  have c1 := zSta_fr hs f2 (by omega)
  have c5 := zRow_up (a := r + 1) (c := (25, F')) b5 (by omega) (by omega)
  have c6 : (zup (zup h r (3, [.ref (r + 1), .int (nI S.1.length), .ref (r + 2), .int R.2.2.1, .int R.2.2.2])) (r + 1) (25, F')).1 (r + 1) = (25, F') := zup_at
  have q1 := hs.1
  have e0 : zcall zP sv (d + 3) 180 [.ref r, .ref s] h = zrun zP sv (zcall zP sv (d + 2)) 180 36 [.val (.ref r), .val (.ref s), .val (.int (nI 6))] [] (zup (zup h r (3, [.ref (r + 1), .int (nI S.1.length), .ref (r + 2), .int R.2.2.1, .int R.2.2.2])) (r + 1) (25, F')) := by
    rw [zc_180, zs_180_0, zs_180_1, zs_180_2, q1, zf_3_1, zs_180_5, r1, zp_3_1, zs_180_8, zs_180_9 znw_u, e1]
  generalize zup (zup h r (3, [.ref (r + 1), .int (nI S.1.length), .ref (r + 2), .int R.2.2.1, .int R.2.2.2])) (r + 1) (25, F') = h2 at *
  have e2 := d_167 (sv := sv) (d := d) c5 c1.2.2.1 (by omega) (by rw [r6, c1.2.2.2.1])
  have f3 := zfr_tr f2 (zfr_up (c := (20, S.2.1.map Value.int)) (show r ≤ r + 2 + 1 by omega) (by omega))
  have g0 : (zup h2 (r + 2 + 1) (20, S.2.1.map Value.int)).1 r = (3, [.ref (r + 1), .int (nI S.1.length), .ref (r + 2), .int R.2.2.1, .int R.2.2.2]) := by rw [zup_ne (by omega), c0]
  have g1 := zSta_fr hs f3 (by omega)
  have g5 : zRow (zup h2 (r + 2 + 1) (20, S.2.1.map Value.int)) (r + 2) S.2.1 := zRow_new c5 (by rw [r6, c1.2.2.2.1])
  have g6 : (zup h2 (r + 2 + 1) (20, S.2.1.map Value.int)).1 (r + 1) = (25, F') := by rw [zup_ne (by omega), c6]
  rw [zs_180_36, zs_180_37, c0, zf_3_2, zs_180_40, zs_180_41, c1.1, zf_3_2, zs_180_44, zRow_rc c5, e2, zbk_v, zts_n] at e0
  generalize zup h2 (r + 2 + 1) (20, S.2.1.map Value.int) = h3 at *
  have k1 : (zup h3 r (3, [.ref (r + 1), .int (nI S.1.length), .ref (r + 2), .int S.2.2.1, .int R.2.2.2])).1 s = h3.1 s := zup_ne (by omega)
  refine ⟨zup h3 r (3, [.ref (r + 1), .int (nI S.1.length), .ref (r + 2), .int S.2.2.1, .int S.2.2.2]), ?_, ⟨zup_at, ⟨F', by rw [zup_ne (by omega), g6], w1, w2⟩, zRow_up g5 (by omega) (by omega), c1.2.2.2.1, c1.2.2.2.2⟩, zfr_tr f3 (zfr_up (by omega) (by omega))⟩
  rw [e0, zs_180_47, zs_180_48, zs_180_49, g1.1, zf_3_3, zs_180_52, g0, zp_3_3, zs_180_55, zs_180_56, zs_180_57, k1, g1.1, zf_3_4, zs_180_60, zup_at, zp_3_4, zs_180_63, zup_up]
end ZDK

/-- a History at g: its ring of eight States at g + 2 + 4 k; H: what is remembered, the latest first -/
def zHL (g : Nat) : List Value := [.ref (g + 2), .ref (g + 6), .ref (g + 10), .ref (g + 14), .ref (g + 18), .ref (g + 22), .ref (g + 26), .ref (g + 30)]
def zHis (h : zH) (g : Nat) (H : List yS) : Prop := ∃ nx, nx < 8 ∧ h.1 g = (5, [.ref (g + 1), .int (nI nx), .int (nI H.length)]) ∧ h.1 (g + 1) = (26, zHL g) ∧ (∀ k, k < 8 → ∃ S, zSta h (g + 2 + 4 * k) S) ∧ (∀ j S, H[j]? = some S → zSta h (g + 2 + 4 * ((nx + 7 - j) % 8)) S) ∧ H.length ≤ 8
theorem zHL_k {g : Nat} : ∀ k, k < 8 → (zHL g)[k]? = some (.ref (g + 2 + 4 * k)) := by
  intro k hk
  rcases (show k = 0 ∨ k = 1 ∨ k = 2 ∨ k = 3 ∨ k = 4 ∨ k = 5 ∨ k = 6 ∨ k = 7 by omega) with rfl | rfl | rfl | rfl | rfl | rfl | rfl | rfl <;> rfl
theorem zHis_fr {h h' : zH} {lo hi g : Nat} {H : List yS} (hg : zHis h g H) (hf : zfr lo hi h h') (hq : g + 34 ≤ lo ∨ hi ≤ g) : zHis h' g H := by
  obtain ⟨nx, h0, h1, h2, h3, h4, h5⟩ := hg
  refine ⟨nx, h0, by rw [hf.1 g (by omega), h1], by rw [hf.1 (g + 1) (by omega), h2], fun k hk => ?_, fun j S hj => ?_, h5⟩
  · obtain ⟨S, hS⟩ := h3 k hk
    exact ⟨S, zSta_fr hS hf (by omega)⟩
  · exact zSta_fr (h4 j S hj) hf (by omega)
theorem zHis_rc {h : zH} {g : Nat} {H : List yS} {X : zR} (hg : zHis h g H) : zrc (h.1 g) 5 X = X := by
  obtain ⟨nx, _, h1, _⟩ := hg
  rw [h1]
  exact zrc_k
theorem nI_mod8 : ∀ a, a < 16 → nI a - nI a / nI 8 * nI 8 = nI (a % 8) := by decide +kernel
theorem nI_78 {n : Nat} (h : n < 8) : nI n + nI 8 - nI 1 = nI (n + 7) := by
  rw [nI_add, show n + 8 = n + 7 + 1 by omega, ← nI_add (n + 7) 1, Int32.add_sub_cancel]
section ZDL
variable {sv : Nat → Value} {d : Nat}
theorem d_131 {h : zH} {g : Nat} {H : List yS} (hg : zHis h g H) : zcall zP sv (d + 1) 131 [.ref g] h = some (.inl (some (.int (nI H.length))), h) := by
  obtain ⟨nx, _, h1, _⟩ := hg
  rw [zc_131, zs_131_0, zs_131_1, h1, zf_5_2, zs_131_4]
theorem d_134 {h : zH} {g : Nat} {H : List yS} (hg : zHis h g H) : ∃ h', zcall zP sv (d + 1) 134 [.ref g] h = some (.inl none, h') ∧ zHis h' g [] ∧ zfr g (g + 34) h h' := by
  obtain ⟨nx, h0, h1, h2, h3, h4, h5⟩ := hg
  have f1 : zfr g (g + 1) h (zup h g (5, [.ref (g + 1), .int (nI nx), .int 0])) := zfr_up (by omega) (by omega)
  refine ⟨zup h g (5, [.ref (g + 1), .int (nI nx), .int 0]), ?_, ⟨nx, h0, by rw [zup_at, List.length_nil, nI_0], by rw [zup_ne (by omega), h2], fun k hk => ?_, fun j S hj => ?_, by decide⟩, zfr_mono f1 (by omega) (by omega)⟩
  · simp only [zc_134, zs_134_0, zs_134_0n, zs_134_1, zs_134_2, zs_134_5, h1, zrc_5, zf_5_0, zp_5_0, zp_5_0n, zf_5_1, zp_5_1, zf_5_2, zp_5_2]
  · obtain ⟨S, hS⟩ := h3 k hk
    exact ⟨S, zSta_fr hS f1 (by omega)⟩
  · rw [List.getElem?_nil] at hj
    cases hj
theorem d_135 {h : zH} {g nx : Nat} {v1 v2 : Value} (h1 : h.1 g = (5, [.ref (g + 1), v1, v2])) (h2 : h.1 (g + 1) = (26, zHL g)) (hn : nx < 8) : zcall zP sv (d + 1) 135 [.ref g, .int (nI nx)] h = some (.inl (some (.ref (g + 2 + 4 * nx))), h) := by
  rw [zc_135, zs_135_0, zs_135_1, if_neg (nI_pos (by omega)), zs_135_4, zs_135_5, zs_135_6, h1, zf_5_0, zs_135_9, h2, zaln_k (by decide), show (zHL g).length = 8 from rfl, zs_135_10, if_pos (nI_lt hn (by decide)), zs_135_13, zs_135_14, h1, zf_5_0, zs_135_17, zs_135_18, h2, zaelv (zHL_k nx hn) (by omega), zs_135_19, zs_135_23]
theorem d_132 {h : zH} {g s : Nat} {S : yS} {H : List yS} (hg : zHis h g H) (hs : zSta h s S) (hd : g + 34 ≤ s ∨ s + 4 ≤ g) (h5 : zK6 h S.1) (h6 : ∀ a, a ∈ S.1 → a < g ∨ g + 34 ≤ a) : ∃ h', zcall zP sv (d + 4) 132 [.ref g, .ref s] h = some (.inl none, h') ∧ zHis h' g ((S :: H).take 8) ∧ zfr g (g + 34) h h' := by
  have hrc : ∀ X, zrc (h.1 g) 5 X = X := fun X => zHis_rc hg
  obtain ⟨nx, p0, p1, p2, p3, p4, p5⟩ := hg
  obtain ⟨R, hR⟩ := p3 nx p0
  obtain ⟨h1, e1, w1, f1⟩ := d_180 (sv := sv) (d := d) hR hs (by omega) h5 (fun a ha => by have := h6 a ha; omega)
  have g1 : h1.1 g = (5, [.ref (g + 1), .int (nI nx), .int (nI H.length)]) := by rw [f1.1 g (by omega), p1]
  have g2 : h1.1 (g + 1) = (26, zHL g) := by rw [f1.1 (g + 1) (by omega), p2]
  have hlen : ((S :: H).take 8).length = min (H.length + 1) 8 := by rw [List.length_take, List.length_cons, Nat.min_comm]
  have emin : (if nI 8 < nI (H.length + 1) then nI 8 else nI (H.length + 1)) = nI ((S :: H).take 8).length := by
    rw [hlen]
    by_cases hc : 8 < H.length + 1
    · rw [if_pos (nI_lt hc (by omega)), Nat.min_eq_right (by omega)]
    · rw [if_neg (nI_nlt (by omega) (by decide)), Nat.min_eq_left (by omega)]
  have f2 : zfr g (g + 1) h1 (zup h1 g (5, [.ref (g + 1), .int (nI ((nx + 1) % 8)), .int (nI ((S :: H).take 8).length)])) := zfr_up (by omega) (by omega)
  refine ⟨zup h1 g (5, [.ref (g + 1), .int (nI ((nx + 1) % 8)), .int (nI ((S :: H).take 8).length)]), ?_, ⟨(nx + 1) % 8, by omega, zup_at, by rw [zup_ne (by omega), g2], fun k hk => ?_, fun j T hj => ?_, by rw [hlen]; omega⟩, zfr_tr (zfr_mono f1 (by omega) (by omega)) (zfr_mono f2 (by omega) (by omega))⟩
  · rw [zc_132, zs_132_0, zs_132_1, zs_132_2, p1, zf_5_1, zs_132_5, hrc, d_135 p1 p2 p0, zbk_v, zts_s, zs_132_8 znw_u, zs_132_9, zs_132_10, zs_132_13, zs_132_14, zs_132_15, zSta_rc hR, e1, zbk_v, zts_n, zs_132_18, zs_132_19, zs_132_20, g1, zf_5_1, zs_132_23, zs_132_24, zs_132_25, zs_132_27, nI_1', nI_mod8 _ (by omega), zs_132_28, g1, zp_5_1, zs_132_31, zs_132_32, zs_132_33, zup_at, zf_5_2, zs_132_36, zs_132_37, zs_132_38, zs_132_40, nI_1', emin, zs_132_43, zup_at, zp_5_2, zup_up, zs_132_46]
  · by_cases hk2 : k = nx
    · subst hk2
      exact ⟨S, zSta_fr w1 f2 (by omega)⟩
    · obtain ⟨T, hT⟩ := p3 k hk
      exact ⟨T, zSta_fr (zSta_fr hT f1 (by omega)) f2 (by omega)⟩
  · have hj8 : j < 8 := by
      have := (List.getElem?_eq_some_iff.mp hj).1
      rw [hlen] at this
      omega
    rw [List.getElem?_take_of_lt hj8] at hj
    cases j with
    | zero =>
      injection hj with hj
      subst hj
      rw [show ((nx + 1) % 8 + 7 - 0) % 8 = nx by omega]
      exact zSta_fr w1 f2 (by omega)
    | succ j =>
      rw [List.getElem?_cons_succ] at hj
      have := p4 j T hj
      rw [show ((nx + 1) % 8 + 7 - (j + 1)) % 8 = (nx + 7 - j) % 8 by omega]
      exact zSta_fr (zSta_fr this f1 (by omega)) f2 (by omega)
theorem d_133 {h : zH} {g s : Nat} {R S : yS} {H : List yS} (hg : zHis h g (S :: H)) (hs : zSta h s R) (hd : g + 34 ≤ s ∨ s + 4 ≤ g) (h5 : zK6 h S.1) (h6 : ∀ a, a ∈ S.1 → a < g ∨ g + 34 ≤ a) (h7 : ∀ a, a ∈ S.1 → a < s ∨ s + 4 ≤ a) : ∃ h', zcall zP sv (d + 4) 133 [.ref g, .ref s] h = some (.inl none, h') ∧ zHis h' g H ∧ zSta h' s S ∧ (∀ q, (q < g ∨ g + 1 ≤ q) → (q < s ∨ s + 4 ≤ q) → h'.1 q = h.1 q) ∧ h'.2 = h.2 := by
  obtain ⟨nx, p0, p1, p2, p3, p4, p5⟩ := hg
  have hS := p4 0 S rfl
  have hl : (S :: H).length = H.length + 1 := rfl
  rw [hl] at p1 p5
  have hsb : nI (H.length + 1) - nI 1 = nI H.length := by rw [← nI_add, Int32.add_sub_cancel]
  have emax : (if nI H.length < 0 then (0 : Int32) else nI H.length) = nI H.length := if_neg (nI_pos (by omega))
  have f1 : zfr g (g + 1) h (zup h g (5, [.ref (g + 1), .int (nI ((nx + 7) % 8)), .int (nI H.length)])) := zfr_up (by omega) (by omega)
  have c0 : (zup h g (5, [.ref (g + 1), .int (nI ((nx + 7) % 8)), .int (nI H.length)])).1 g = (5, [.ref (g + 1), .int (nI ((nx + 7) % 8)), .int (nI H.length)]) := zup_at
  have c1 : (zup h g (5, [.ref (g + 1), .int (nI ((nx + 7) % 8)), .int (nI H.length)])).1 (g + 1) = (26, zHL g) := by rw [zup_ne (by omega), p2]
  have c2 := zSta_fr hs f1 (by omega)
  have c3 := zSta_fr hS f1 (by omega)
  have c5 := zK6_fr h5 f1 (fun a ha => by have := h6 a ha; omega)
  obtain ⟨h1, e1, w1, f2⟩ := d_180 (sv := sv) (d := d) c2 c3 (by omega) c5 h7
  rw [show nx + 7 - 0 = nx + 7 by omega] at e1
  refine ⟨h1, ?_, ⟨(nx + 7) % 8, by omega, by rw [f2.1 g (by omega), c0], by rw [f2.1 (g + 1) (by omega), c1], fun k hk => ?_, fun j T hj => ?_, by omega⟩, w1, fun q q1 q2 => (f2.1 q q2).trans (f1.1 q q1), f2.2.trans f1.2⟩
  · have hrc : ∀ X, zrc ((zup h g (5, [.ref (g + 1), .int (nI ((nx + 7) % 8)), .int (nI H.length)])).1 g) 5 X = X := fun X => by rw [c0]; exact zrc_k
    rw [zc_133, zs_133_0, zs_133_1, zs_133_2, p1, zf_5_1, zs_133_5, zs_133_7, zs_133_8, zs_133_9, nI_78 p0, zs_133_10, zs_133_12, nI_mod8 _ (by omega), zs_133_13, p1, zp_5_1, zs_133_16, zs_133_17, zs_133_18, zup_at, zf_5_2, zs_133_21, zs_133_22, hsb, zs_133_23, zs_133_24, emax, zs_133_27, zup_at, zp_5_2, zup_up, zs_133_30, zs_133_31, zs_133_32, c0, zf_5_1, zs_133_35, hrc, d_135 c0 c1 (by omega), zbk_v, zts_s, zs_133_38 znw_u, zs_133_39, zs_133_40, zs_133_43, zs_133_44, zs_133_45, zSta_rc c2, e1, zbk_v, zts_n, zs_133_48]
  · obtain ⟨T, hT⟩ := p3 k hk
    exact ⟨T, zSta_fr (zSta_fr hT f1 (by omega)) f2 (by omega)⟩
  · have hj8 := (List.getElem?_eq_some_iff.mp hj).1
    have := p4 (j + 1) T hj
    rw [show ((nx + 7) % 8 + 7 - j) % 8 = (nx + 7 - (j + 1)) % 8 by omega]
    exact zSta_fr (zSta_fr this f1 (by omega)) f2 (by omega)
end ZDL
