/-- one range of addresses changed alone, nothing made -/
def zfr (lo hi : Nat) (h h' : zH) : Prop := (∀ q, q < lo ∨ hi ≤ q → h'.1 q = h.1 q) ∧ h'.2 = h.2
theorem zfr_rfl {lo hi : Nat} {h : zH} : zfr lo hi h h := ⟨fun _ _ => rfl, rfl⟩
theorem zfr_up {lo hi a : Nat} {h : zH} {c : zC} (h1 : lo ≤ a) (h2 : a < hi) : zfr lo hi h (zup h a c) := ⟨fun q hq => zup_ne (by omega), rfl⟩
theorem zfr_tr {lo hi : Nat} {h h' h'' : zH} (h1 : zfr lo hi h h') (h2 : zfr lo hi h' h'') : zfr lo hi h h'' := ⟨fun q hq => (h2.1 q hq).trans (h1.1 q hq), h2.2.trans h1.2⟩
theorem zfr_mono {lo hi lo' hi' : Nat} {h h' : zH} (h1 : zfr lo hi h h') (ha : lo' ≤ lo) (hb : hi ≤ hi') : zfr lo' hi' h h' := ⟨fun q hq => h1.1 q (by omega), h1.2⟩
theorem zfr_at {lo hi q : Nat} {h h' : zH} (h1 : zfr lo hi h h') (hq : q < lo ∨ hi ≤ q) : h'.1 q = h.1 q := h1.1 q hq
/-- a Row's get and set -/
def yg (A : List Int32) (x : Int32) : Int32 := if x < 0 then 0 else A.getD x.toNatClampNeg 0
def ys (A : List Int32) (x y : Int32) : List Int32 := if x < 0 then A else A.set x.toNatClampNeg y
def zRow (h : zH) (r : Nat) (A : List Int32) : Prop := h.1 r = (4, [.ref (r + 1)]) ∧ h.1 (r + 1) = (20, A.map Value.int) ∧ A.length < 2 ^ 31
theorem yg_k {A : List Int32} {i : Nat} (hi : i < 2 ^ 31) : yg A (nI i) = A.getD i 0 := by
  unfold yg
  rw [if_neg (nI_pos hi), nI_clamp hi]
theorem yg_n {A : List Int32} : yg A (-1) = 0 := by
  unfold yg
  rw [if_pos (by decide +kernel)]
theorem yg_e {A : List Int32} {i : Nat} {v : Int32} (hi : i < 2 ^ 31) (hv : A[i]? = some v) : yg A (nI i) = v := by
  rw [yg_k hi, List.getD_eq_getElem?_getD, hv]; rfl
theorem ys_k {A : List Int32} {i : Nat} {y : Int32} (hi : i < 2 ^ 31) : ys A (nI i) y = A.set i y := by
  unfold ys
  rw [if_neg (nI_pos hi), nI_clamp hi]
theorem ys_len {A : List Int32} {x y : Int32} : (ys A x y).length = A.length := by
  unfold ys
  by_cases hx : x < 0
  · rw [if_pos hx]
  · rw [if_neg hx, List.length_set]
theorem zRow_fr {h h' : zH} {lo hi r : Nat} {A : List Int32} (hr : zRow h r A) (hf : zfr lo hi h h') (hq : r + 2 ≤ lo ∨ hi ≤ r) : zRow h' r A := ⟨by rw [hf.1 r (by omega), hr.1], by rw [hf.1 (r + 1) (by omega), hr.2.1], hr.2.2⟩
theorem zRow_up {h : zH} {a r : Nat} {c : zC} {A : List Int32} (hr : zRow h r A) (h1 : a ≠ r) (h2 : a ≠ r + 1) : zRow (zup h a c) r A := ⟨by rw [zup_ne (Ne.symm h1), hr.1], by rw [zup_ne (Ne.symm h2), hr.2.1], hr.2.2⟩
theorem zRow_new {h : zH} {r : Nat} {A B : List Int32} (hr : zRow h r A) (hB : B.length = A.length) : zRow (zup h (r + 1) (20, B.map Value.int)) r B := ⟨by rw [zup_ne (by omega), hr.1], zup_at, by rw [hB]; exact hr.2.2⟩
theorem zRow_rc {h : zH} {r : Nat} {A : List Int32} {X : zR} (hr : zRow h r A) : zrc (h.1 r) 4 X = X := by rw [hr.1, zrc_4]
theorem zaset_m {A : List Int32} {x y : Int32} {K : zC → zR} (h0 : ¬ x < 0) (hx : x < nI A.length) (hl : A.length < 2 ^ 31) : zaset (20, A.map Value.int) 20 x (.int y) K = K (20, (A.set x.toNatClampNeg y).map Value.int) := by
  obtain ⟨i, hi, rfl⟩ := nI_of h0
  have := (nI_ltI hi hl).mp hx
  rw [zaset_k (by rw [List.length_map]; exact this) hi, nI_clamp hi, List.map_set]
theorem zael_m {A : List Int32} {x : Int32} {K : Value → zR} (h0 : ¬ x < 0) (hx : x < nI A.length) (hl : A.length < 2 ^ 31) : zael (20, A.map Value.int) 20 x K = K (.int (A.getD x.toNatClampNeg 0)) := by
  obtain ⟨i, hi, rfl⟩ := nI_of h0
  have h2 := (nI_ltI hi hl).mp hx
  rw [zael_k (v := .int (A.getD i 0)) (by rw [List.getElem?_map, List.getD_eq_getElem?_getD, List.getElem?_eq_getElem h2]; rfl) hi, nI_clamp hi]
section ZDA
variable {sv : Nat → Value} {d : Nat} {h : zH}
theorem d_165 {r : Nat} {A : List Int32} {x : Int32} (hr : zRow h r A) : zcall zP sv (d + 1) 165 [.ref r, .int x] h = some (.inl (some (.int (yg A x))), h) := by
  unfold yg
  rw [zc_165, zs_165_0, zs_165_1]
  by_cases h0 : x < 0
  · rw [if_pos h0, if_pos h0, zs_165_22, zs_165_23]
  · rw [if_neg h0, if_neg h0, zs_165_4, zs_165_5, zs_165_6, hr.1, zf_4_0, zs_165_9, hr.2.1, zaln_k (by decide), List.length_map, zs_165_10]
    by_cases h1 : x < nI A.length
    · rw [if_pos h1, zs_165_13, zs_165_14, hr.1, zf_4_0, zs_165_17, zs_165_18, hr.2.1, zael_m h0 h1 hr.2.2, zs_165_19, zs_165_23]
    · obtain ⟨i, hi, rfl⟩ := nI_of h0
      have h2 : ¬ i < A.length := fun h3 => h1 ((nI_ltI hi hr.2.2).mpr h3)
      rw [if_neg h1, zs_165_22, zs_165_23, nI_clamp hi, List.getD_eq_getElem?_getD, List.getElem?_eq_none (by omega)]
      rfl
theorem d_166 {r : Nat} {A : List Int32} {x y : Int32} (hr : zRow h r A) : zcall zP sv (d + 1) 166 [.ref r, .int x, .int y] h = some (.inl none, zup h (r + 1) (20, (ys A x y).map Value.int)) := by
  unfold ys
  rw [zc_166, zs_166_0, zs_166_1]
  by_cases h0 : x < 0
  · rw [if_pos h0, if_pos h0, zs_166_20, zup_self hr.2.1]
  · rw [if_neg h0, if_neg h0, zs_166_4, zs_166_5, zs_166_6, hr.1, zf_4_0, zs_166_9, hr.2.1, zaln_k (by decide), List.length_map, zs_166_10]
    by_cases h1 : x < nI A.length
    · rw [if_pos h1, zs_166_13, zs_166_14, hr.1, zf_4_0, zs_166_17, zs_166_18, zs_166_19, hr.2.1, zaset_m h0 h1 hr.2.2, zs_166_20]
    · obtain ⟨i, hi, rfl⟩ := nI_of h0
      have h2 : ¬ i < A.length := fun h3 => h1 ((nI_ltI hi hr.2.2).mpr h3)
      rw [if_neg h1, zs_166_20, nI_clamp hi, List.set_eq_of_length_le (by omega), zup_self hr.2.1]
end ZDA
/-- a Tree: its object at t, its four rows behind it; ns: its nodes (kind, number, left, right) -/
abbrev yN : Type := Int32 × Int32 × Int32 × Int32
def zTc (t m n : Nat) : zC := (6, [.ref (t + 1), .ref (t + 3), .ref (t + 5), .ref (t + 7), .int (nI m), .int (nI n)])
def zTre (h : zH) (t m : Nat) (ns : List yN) : Prop := ∃ K N L R : List Int32, h.1 t = zTc t m ns.length ∧ (zRow h (t + 1) K ∧ zRow h (t + 3) N ∧ zRow h (t + 5) L ∧ zRow h (t + 7) R) ∧ (K.length = m ∧ N.length = m ∧ L.length = m ∧ R.length = m ∧ ns.length ≤ m) ∧ K.take ns.length = ns.map (fun q => q.1) ∧ N.take ns.length = ns.map (fun q => q.2.1) ∧ L.take ns.length = ns.map (fun q => q.2.2.1) ∧ R.take ns.length = ns.map (fun q => q.2.2.2)
theorem ytk_at {K P : List Int32} {n i : Nat} {v : Int32} (hk : K.take n = P) (hv : P[i]? = some v) : K[i]? = some v := by
  have hi := (List.getElem?_eq_some_iff.mp hv).1
  have hl : i < n := by rw [← hk, List.length_take] at hi; omega
  rw [← hk, List.getElem?_take_of_lt hl] at hv
  exact hv
theorem ytk_set {K P : List Int32} {n : Nat} {k : Int32} (hk : K.take n = P) (hn : n < K.length) : (K.set n k).take (n + 1) = P ++ [k] := by
  rw [List.take_add_one, List.take_set_of_le (Nat.le_refl _), hk, List.getElem?_set_self hn]
  rfl
theorem zTre_lt {h : zH} {t m : Nat} {ns : List yN} (ht : zTre h t m ns) : m < 2 ^ 31 ∧ ns.length ≤ m := by
  obtain ⟨K, N, L, R, _, hr, hl, _⟩ := ht
  exact ⟨by rw [← hl.1]; exact hr.1.2.2, hl.2.2.2.2⟩
theorem zTre_rc {h : zH} {t m : Nat} {ns : List yN} {X : zR} (ht : zTre h t m ns) : zrc (h.1 t) 6 X = X := by
  obtain ⟨K, N, L, R, h0, _⟩ := ht
  rw [h0]
  exact zrc_k
theorem zTre_fr {h h' : zH} {lo hi t m : Nat} {ns : List yN} (ht : zTre h t m ns) (hf : zfr lo hi h h') (hq : t + 9 ≤ lo ∨ hi ≤ t) : zTre h' t m ns := by
  obtain ⟨K, N, L, R, h0, ⟨h1, h2, h3, h4⟩, h5⟩ := ht
  exact ⟨K, N, L, R, by rw [hf.1 t (by omega), h0], ⟨zRow_fr h1 hf (by omega), zRow_fr h2 hf (by omega), zRow_fr h3 hf (by omega), zRow_fr h4 hf (by omega)⟩, h5⟩
section ZDB
variable {sv : Nat → Value} {d : Nat} {h : zH} {t m : Nat} {ns : List yN}
theorem d_182 (ht : zTre h t m ns) : zcall zP sv (d + 1) 182 [.ref t] h = some (.inl (some (.int (nI ns.length))), h) := by
  obtain ⟨K, N, L, R, h0, _⟩ := ht
  rw [zc_182, zs_182_0, zs_182_1, h0, zTc, zf_6_5, zs_182_4]
theorem d_183 (ht : zTre h t m ns) : zcall zP sv (d + 1) 183 [.ref t] h = some (.inl (some (.int (nI ns.length - nI 1))), h) := by
  obtain ⟨K, N, L, R, h0, _⟩ := ht
  rw [zc_183, zs_183_0, zs_183_1, h0, zTc, zf_6_5, zs_183_4, zs_183_5, zs_183_6]
theorem d_184 {i : Nat} {nd : yN} (ht : zTre h t m ns) (hi : ns[i]? = some nd) : zcall zP sv (d + 2) 184 [.ref t, .int (nI i)] h = some (.inl (some (.int nd.1)), h) := by
  have hm := zTre_lt ht
  have hl := (List.getElem?_eq_some_iff.mp hi).1
  obtain ⟨K, N, L, R, h0, hr, _, h1, _⟩ := ht
  have e1 := ytk_at h1 (by rw [List.getElem?_map, hi]; rfl)
  rw [zc_184, zs_184_0, zs_184_1, h0, zTc, zf_6_0, zs_184_4, zs_184_5, zRow_rc hr.1, d_165 hr.1, zbk_v, zts_s, zs_184_8, yg_e (by omega) e1]
theorem d_185 {i : Nat} {nd : yN} (ht : zTre h t m ns) (hi : ns[i]? = some nd) : zcall zP sv (d + 2) 185 [.ref t, .int (nI i)] h = some (.inl (some (.int nd.2.1)), h) := by
  have hm := zTre_lt ht
  have hl := (List.getElem?_eq_some_iff.mp hi).1
  obtain ⟨K, N, L, R, h0, hr, _, _, h1, _⟩ := ht
  have e1 := ytk_at h1 (by rw [List.getElem?_map, hi]; rfl)
  rw [zc_185, zs_185_0, zs_185_1, h0, zTc, zf_6_1, zs_185_4, zs_185_5, zRow_rc hr.2.1, d_165 hr.2.1, zbk_v, zts_s, zs_185_8, yg_e (by omega) e1]
theorem d_186 {i : Nat} {nd : yN} (ht : zTre h t m ns) (hi : ns[i]? = some nd) : zcall zP sv (d + 2) 186 [.ref t, .int (nI i)] h = some (.inl (some (.int nd.2.2.1)), h) := by
  have hm := zTre_lt ht
  have hl := (List.getElem?_eq_some_iff.mp hi).1
  obtain ⟨K, N, L, R, h0, hr, _, _, _, h1, _⟩ := ht
  have e1 := ytk_at h1 (by rw [List.getElem?_map, hi]; rfl)
  rw [zc_186, zs_186_0, zs_186_1, h0, zTc, zf_6_2, zs_186_4, zs_186_5, zRow_rc hr.2.2.1, d_165 hr.2.2.1, zbk_v, zts_s, zs_186_8, yg_e (by omega) e1]
theorem d_187 {i : Nat} {nd : yN} (ht : zTre h t m ns) (hi : ns[i]? = some nd) : zcall zP sv (d + 2) 187 [.ref t, .int (nI i)] h = some (.inl (some (.int nd.2.2.2)), h) := by
  have hm := zTre_lt ht
  have hl := (List.getElem?_eq_some_iff.mp hi).1
  obtain ⟨K, N, L, R, h0, hr, _, _, _, _, h1⟩ := ht
  have e1 := ytk_at h1 (by rw [List.getElem?_map, hi]; rfl)
  rw [zc_187, zs_187_0, zs_187_1, h0, zTc, zf_6_3, zs_187_4, zs_187_5, zRow_rc hr.2.2.2, d_165 hr.2.2.2, zbk_v, zts_s, zs_187_8, yg_e (by omega) e1]
theorem d_190 (ht : zTre h t m ns) : ∃ h', zcall zP sv (d + 1) 190 [.ref t] h = some (.inl none, h') ∧ zTre h' t m [] ∧ zfr t (t + 9) h h' := by
  obtain ⟨K, N, L, R, h0, ⟨h1, h2, h3, h4⟩, h5, _⟩ := ht
  refine ⟨zup h t (zTc t m 0), ?_, ⟨K, N, L, R, zup_at, ⟨zRow_up h1 (by omega) (by omega), zRow_up h2 (by omega) (by omega), zRow_up h3 (by omega) (by omega), zRow_up h4 (by omega) (by omega)⟩, ⟨h5.1, h5.2.1, h5.2.2.1, h5.2.2.2.1, Nat.zero_le _⟩, rfl, rfl, rfl, rfl⟩, zfr_up (by omega) (by omega)⟩
  rw [zc_190, zs_190_0, zs_190_1, zs_190_2, h0, zTc, zp_6_5, zs_190_5, zTc, nI_0]
theorem d_191f {k n l r : Int32} (ht : zTre h t m ns) (hn : ns.length = m) : zcall zP sv (d + 2) 191 [.ref t, .int k, .int n, .int l, .int r] h = some (.inl (some (.int (-1))), h) := by
  have hm := zTre_lt ht
  obtain ⟨K, N, L, R, h0, _⟩ := ht
  rw [zc_191, zs_191_0, zs_191_1, h0, zTc, zf_6_5, zs_191_4, zs_191_5, h0, zTc, zf_6_4, zs_191_8, if_neg (nI_nlt (by omega) (by omega)), zs_191_11, zs_191_12]
theorem d_191 {k n l r : Int32} (ht : zTre h t m ns) (hn : ns.length < m) : ∃ h', zcall zP sv (d + 2) 191 [.ref t, .int k, .int n, .int l, .int r] h = some (.inl (some (.int (nI ns.length))), h') ∧ zTre h' t m (ns ++ [(k, n, l, r)]) ∧ zfr t (t + 9) h h' := by
  have hm := zTre_lt ht
  obtain ⟨K, N, L, R, h0, ⟨h1, h2, h3, h4⟩, h5, t1, t2, t3, t4⟩ := ht
  have hn2 : ns.length < 2 ^ 31 := by omega
  have b1 := zRow_new h1 (B := ys K (nI ns.length) k) ys_len
  have b2 := zRow_up h2 (a := t + 1 + 1) (c := (20, (ys K (nI ns.length) k).map Value.int)) (by omega) (by omega)
  have b3 := zRow_up h3 (a := t + 1 + 1) (c := (20, (ys K (nI ns.length) k).map Value.int)) (by omega) (by omega)
  have b4 := zRow_up h4 (a := t + 1 + 1) (c := (20, (ys K (nI ns.length) k).map Value.int)) (by omega) (by omega)
  have f1 : zfr t (t + 9) h (zup h (t + 1 + 1) (20, (ys K (nI ns.length) k).map Value.int)) := zfr_up (by omega) (by omega)
  have g1 : (zup h (t + 1 + 1) (20, (ys K (nI ns.length) k).map Value.int)).1 t = zTc t m ns.length := by rw [zup_ne (by omega), h0]
  have e1 := d_166 (sv := sv) (d := d) (x := nI ns.length) (y := k) h1
  generalize zup h (t + 1 + 1) (20, (ys K (nI ns.length) k).map Value.int) = ha at *
  have e2 := d_166 (sv := sv) (d := d) (x := nI ns.length) (y := n) b2
  have c1 := zRow_up b1 (a := t + 3 + 1) (c := (20, (ys N (nI ns.length) n).map Value.int)) (by omega) (by omega)
  have c2 := zRow_new b2 (B := ys N (nI ns.length) n) ys_len
  have c3 := zRow_up b3 (a := t + 3 + 1) (c := (20, (ys N (nI ns.length) n).map Value.int)) (by omega) (by omega)
  have c4 := zRow_up b4 (a := t + 3 + 1) (c := (20, (ys N (nI ns.length) n).map Value.int)) (by omega) (by omega)
  have f2 := zfr_tr f1 (zfr_up (c := (20, (ys N (nI ns.length) n).map Value.int)) (show t ≤ t + 3 + 1 by omega) (by omega))
  have g2 : (zup ha (t + 3 + 1) (20, (ys N (nI ns.length) n).map Value.int)).1 t = zTc t m ns.length := by rw [zup_ne (by omega), g1]
  generalize zup ha (t + 3 + 1) (20, (ys N (nI ns.length) n).map Value.int) = hb at *
  have e3 := d_166 (sv := sv) (d := d) (x := nI ns.length) (y := l) c3
  have i1 := zRow_up c1 (a := t + 5 + 1) (c := (20, (ys L (nI ns.length) l).map Value.int)) (by omega) (by omega)
  have i2 := zRow_up c2 (a := t + 5 + 1) (c := (20, (ys L (nI ns.length) l).map Value.int)) (by omega) (by omega)
  have i3 := zRow_new c3 (B := ys L (nI ns.length) l) ys_len
  have i4 := zRow_up c4 (a := t + 5 + 1) (c := (20, (ys L (nI ns.length) l).map Value.int)) (by omega) (by omega)
  have f3 := zfr_tr f2 (zfr_up (c := (20, (ys L (nI ns.length) l).map Value.int)) (show t ≤ t + 5 + 1 by omega) (by omega))
  have g3 : (zup hb (t + 5 + 1) (20, (ys L (nI ns.length) l).map Value.int)).1 t = zTc t m ns.length := by rw [zup_ne (by omega), g2]
  generalize zup hb (t + 5 + 1) (20, (ys L (nI ns.length) l).map Value.int) = hc at *
  have e4 := d_166 (sv := sv) (d := d) (x := nI ns.length) (y := r) i4
  have j1 := zRow_up i1 (a := t + 7 + 1) (c := (20, (ys R (nI ns.length) r).map Value.int)) (by omega) (by omega)
  have j2 := zRow_up i2 (a := t + 7 + 1) (c := (20, (ys R (nI ns.length) r).map Value.int)) (by omega) (by omega)
  have j3 := zRow_up i3 (a := t + 7 + 1) (c := (20, (ys R (nI ns.length) r).map Value.int)) (by omega) (by omega)
  have j4 := zRow_new i4 (B := ys R (nI ns.length) r) ys_len
  have f4 := zfr_tr f3 (zfr_up (c := (20, (ys R (nI ns.length) r).map Value.int)) (show t ≤ t + 7 + 1 by omega) (by omega))
  have g4 : (zup hc (t + 7 + 1) (20, (ys R (nI ns.length) r).map Value.int)).1 t = zTc t m ns.length := by rw [zup_ne (by omega), g3]
  generalize zup hc (t + 7 + 1) (20, (ys R (nI ns.length) r).map Value.int) = hd at *
  have hlen : (ns ++ [(k, n, l, r)]).length = ns.length + 1 := by rw [List.length_append]; rfl
  refine ⟨zup hd t (zTc t m (ns ++ [(k, n, l, r)]).length), ?_, ⟨ys K (nI ns.length) k, ys N (nI ns.length) n, ys L (nI ns.length) l, ys R (nI ns.length) r, zup_at, ⟨zRow_up j1 (by omega) (by omega), zRow_up j2 (by omega) (by omega), zRow_up j3 (by omega) (by omega), zRow_up j4 (by omega) (by omega)⟩, ⟨by rw [ys_len]; omega, by rw [ys_len]; omega, by rw [ys_len]; omega, by rw [ys_len]; omega, by rw [hlen]; omega⟩, ?_, ?_, ?_, ?_⟩, zfr_tr f4 (zfr_up (by omega) (by omega))⟩
  · rw [zc_191, zs_191_0, zs_191_1, h0, zTc, zf_6_5, zs_191_4, zs_191_5, h0, zTc, zf_6_4, zs_191_8, if_pos (nI_lt hn (by omega)), zs_191_13, zs_191_14, h0, zTc, zf_6_0, zs_191_17, zs_191_18, h0, zTc, zf_6_5, zs_191_21, zs_191_22, zRow_rc h1, e1, zbk_v, zts_n, zs_191_25, zs_191_26, g1, zTc, zf_6_1, zs_191_29, zs_191_30, g1, zTc, zf_6_5, zs_191_33, zs_191_34, zRow_rc b2, e2, zbk_v, zts_n, zs_191_37, zs_191_38, g2, zTc, zf_6_2, zs_191_41, zs_191_42, g2, zTc, zf_6_5, zs_191_45, zs_191_46, zRow_rc c3, e3, zbk_v, zts_n, zs_191_49, zs_191_50, g3, zTc, zf_6_3, zs_191_53, zs_191_54, g3, zTc, zf_6_5, zs_191_57, zs_191_59, zRow_rc i4, e4, zbk_v, zts_n, zs_191_62, zs_191_63, zs_191_64, g4, zTc, zf_6_5, zs_191_67, zs_191_68, zs_191_69, g4, zTc, zp_6_5, zs_191_72, zs_191_73, zup_at, zf_6_5, zs_191_76, zs_191_77, zs_191_78, nI_1', hlen, zTc, ← nI_add, Int32.add_sub_cancel]
  · rw [hlen, ys_k hn2, ytk_set t1 (by omega), List.map_append]; rfl
  · rw [hlen, ys_k hn2, ytk_set t2 (by omega), List.map_append]; rfl
  · rw [hlen, ys_k hn2, ytk_set t3 (by omega), List.map_append]; rfl
  · rw [hlen, ys_k hn2, ytk_set t4 (by omega), List.map_append]; rfl
end ZDB
