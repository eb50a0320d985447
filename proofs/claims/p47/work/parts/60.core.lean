/-- one range of addresses changed alone, nothing made -/
def zfr (lo hi : Nat) (h h' : zH) : Prop := (∀ q, q < lo ∨ hi ≤ q → h'.1 q = h.1 q) ∧ h'.2 = h.2
theorem zfr_rfl {lo hi : Nat} {h : zH} : zfr lo hi h h := ⟨fun _ _ => rfl, rfl⟩
theorem zfr_up {lo hi a : Nat} {h : zH} {c : zC} (h1 : lo ≤ a) (h2 : a < hi) : zfr lo hi h (zup h a c) := ⟨fun q hq => zup_ne (by omega), rfl⟩
theorem zfr_tr {lo hi : Nat} {h h' h'' : zH} (h1 : zfr lo hi h h') (h2 : zfr lo hi h' h'') : zfr lo hi h h'' := ⟨fun q hq => (h2.1 q hq).trans (h1.1 q hq), h2.2.trans h1.2⟩
theorem zfr_mono {lo hi lo' hi' : Nat} {h h' : zH} (h1 : zfr lo hi h h') (ha : lo' ≤ lo) (hb : hi ≤ hi') : zfr lo' hi' h h' := ⟨fun q hq => h1.1 q (by omega), h1.2⟩
theorem zfr_at {lo hi q : Nat} {h h' : zH} (h1 : zfr lo hi h h') (hq : q < lo ∨ hi ≤ q) : h'.1 q = h.1 q := h1.1 q hq
/-- a Row's get and set -/
def yg (A : List Int32) (x : Int32) : Int32 := if x < 0 then 0 else A.getD x.toNatClampNeg 0
def ys (A : List Int32) (x y : Int32) : List Int32 := if x < 0 then A else A.set x.toNatClampNeg y
def zRow (h : zH) (r : Nat) (A : List Int32) : Prop := h.1 r = (4, [.ref (r + 1)]) ∧ h.1 (r + 1) = (20, A.map Value.int) ∧ A.length < 2 ^ 31
theorem yg_k {A : List Int32} {i : Nat} (hi : i < 2 ^ 31) : yg A (nI i) = A.getD i 0 := by
  unfold yg
  rw [if_neg (nI_pos hi), nI_clamp hi]
theorem yg_n {A : List Int32} : yg A (-1) = 0 := by
  unfold yg
  rw [if_pos (by decide +kernel)]
theorem yg_e {A : List Int32} {i : Nat} {v : Int32} (hi : i < 2 ^ 31) (hv : A[i]? = some v) : yg A (nI i) = v := by
  rw [yg_k hi, List.getD_eq_getElem?_getD, hv]; rfl
theorem ys_k {A : List Int32} {i : Nat} {y : Int32} (hi : i < 2 ^ 31) : ys A (nI i) y = A.set i y := by
  unfold ys
  rw [if_neg (nI_pos hi), nI_clamp hi]
theorem ys_len {A : List Int32} {x y : Int32} : (ys A x y).length = A.length := by
  unfold ys
  by_cases hx : x < 0
  · rw [if_pos hx]
  · rw [if_neg hx, List.length_set]
theorem zRow_fr {h h' : zH} {lo hi r : Nat} {A : List Int32} (hr : zRow h r A) (hf : zfr lo hi h h') (hq : r + 2 ≤ lo ∨ hi ≤ r) : zRow h' r A := ⟨by rw [hf.1 r (by omega), hr.1], by rw [hf.1 (r + 1) (by omega), hr.2.1], hr.2.2⟩
theorem zRow_up {h : zH} {a r : Nat} {c : zC} {A : List Int32} (hr : zRow h r A) (h1 : a ≠ r) (h2 : a ≠ r + 1) : zRow (zup h a c) r A := ⟨by rw [zup_ne (Ne.symm h1), hr.1], by rw [zup_ne (Ne.symm h2), hr.2.1], hr.2.2⟩
theorem zRow_new {h : zH} {r : Nat} {A B : List Int32} (hr : zRow h r A) (hB : B.length = A.length) : zRow (zup h (r + 1) (20, B.map Value.int)) r B := ⟨by rw [zup_ne (by omega), hr.1], zup_at, by rw [hB]; exact hr.2.2⟩
theorem zRow_rc {h : zH} {r : Nat} {A : List Int32} {X : zR} (hr : zRow h r A) : zrc (h.1 r) 4 X = X := by rw [hr.1, zrc_4]
theorem zaset_m {A : List Int32} {x y : Int32} {K : zC → zR} (h0 : ¬ x < 0) (hx : x < nI A.length) (hl : A.length < 2 ^ 31) : zaset (20, A.map Value.int) 20 x (.int y) K = K (20, (A.set x.toNatClampNeg y).map Value.int) := by
  obtain ⟨i, hi, rfl⟩ := nI_of h0
  have := (nI_ltI hi hl).mp hx
  rw [zaset_k (by rw [List.length_map]; exact this) hi, nI_clamp hi, List.map_set]
theorem zael_m {A : List Int32} {x : Int32} {K : Value → zR} (h0 : ¬ x < 0) (hx : x < nI A.length) (hl : A.length < 2 ^ 31) : zael (20, A.map Value.int) 20 x K = K (.int (A.getD x.toNatClampNeg 0)) := by
  obtain ⟨i, hi, rfl⟩ := nI_of h0
  have h2 := (nI_ltI hi hl).mp hx
  rw [zael_k (v := .int (A.getD i 0)) (by rw [List.getElem?_map, List.getD_eq_getElem?_getD, List.getElem?_eq_getElem h2]; rfl) hi, nI_clamp hi]
section ZDA
variable {sv : Nat → Value} {d : Nat} {h : zH}
theorem d_165 {r : Nat} {A : List Int32} {x : Int32} (hr : zRow h r A) : zcall zP sv (d + 1) 165 [.ref r, .int x] h = some (.inl (some (.int (yg A x))), h) := by
  unfold yg
  rw [zc_165, zs_165_0, zs_165_1]
  by_cases h0 : x < 0
  · rw [if_pos h0, if_pos h0, zs_165_22, zs_165_23]
  · rw [if_neg h0, if_neg h0, zs_165_4, zs_165_5, zs_165_6, hr.1, zf_4_0, zs_165_9, hr.2.1, zaln_k (by decide), List.length_map, zs_165_10]
    by_cases h1 : x < nI A.length
    · rw [if_pos h1, zs_165_13, zs_165_14, hr.1, zf_4_0, zs_165_17, zs_165_18, hr.2.1, zael_m h0 h1 hr.2.2, zs_165_19, zs_165_23]
    · obtain ⟨i, hi, rfl⟩ := nI_of h0
      have h2 : ¬ i < A.length := fun h3 => h1 ((nI_ltI hi hr.2.2).mpr h3)
      rw [if_neg h1, zs_165_22, zs_165_23, nI_clamp hi, List.getD_eq_getElem?_getD, List.getElem?_eq_none (by omega)]
      rfl
theorem d_166 {r : Nat} {A : List Int32} {x y : Int32} (hr : zRow h r A) : zcall zP sv (d + 1) 166 [.ref r, .int x, .int y] h = some (.inl none, zup h (r + 1) (20, (ys A x y).map Value.int)) := by
  unfold ys
  rw [zc_166, zs_166_0, zs_166_1]
  by_cases h0 : x < 0
  · rw [if_pos h0, if_pos h0, zs_166_20, zup_self hr.2.1]
  · rw [if_neg h0, if_neg h0, zs_166_4, zs_166_5, zs_166_6, hr.1, zf_4_0, zs_166_9, hr.2.1, zaln_k (by decide), List.length_map, zs_166_10]
    by_cases h1 : x < nI A.length
    · rw [if_pos h1, zs_166_13, zs_166_14, hr.1, zf_4_0, zs_166_17, zs_166_18, zs_166_19, hr.2.1, zaset_m h0 h1 hr.2.2, zs_166_20]
    · obtain ⟨i, hi, rfl⟩ := nI_of h0
      have h2 : ¬ i < A.length := fun h3 => h1 ((nI_ltI hi hr.2.2).mpr h3)
      rw [if_neg h1, zs_166_20, nI_clamp hi, List.set_eq_of_length_le (by omega), zup_self hr.2.1]
end ZDA
/-- a Tree: its object at t, its four rows behind it; ns: its nodes (kind, number, left, right) -/
abbrev yN : Type := Int32 × Int32 × Int32 × Int32
def zTc (t m n : Nat) : zC := (6, [.ref (t + 1), .ref (t + 3), .ref (t + 5), .ref (t + 7), .int (nI m), .int (nI n)])
def zTre (h : zH) (t m : Nat) (ns : List yN) : Prop := ∃ K N L R : List Int32, h.1 t = zTc t m ns.length ∧ (zRow h (t + 1) K ∧ zRow h (t + 3) N ∧ zRow h (t + 5) L ∧ zRow h (t + 7) R) ∧ (K.length = m ∧ N.length = m ∧ L.length = m ∧ R.length = m ∧ ns.length ≤ m) ∧ K.take ns.length = ns.map (fun q => q.1) ∧ N.take ns.length = ns.map (fun q => q.2.1) ∧ L.take ns.length = ns.map (fun q => q.2.2.1) ∧ R.take ns.length = ns.map (fun q => q.2.2.2)
theorem ytk_at {K P : List Int32} {n i : Nat} {v : Int32} (hk : K.take n = P) (hv : P[i]? = some v) : K[i]? = some v := by
  have hi := (List.getElem?_eq_some_iff.mp hv).1
  have hl : i < n := by rw [← hk, List.length_take] at hi; omega
  rw [← hk, List.getElem?_take_of_lt hl] at hv
  exact hv
theorem ytk_set {K P : List Int32} {n : Nat} {k : Int32} (hk : K.take n = P) (hn : n < K.length) : (K.set n k).take (n + 1) = P ++ [k] := by
  rw [List.take_add_one, List.take_set_of_le (Nat.le_refl _), hk, List.getElem?_set_self hn]
  rfl
theorem zTre_lt {h : zH} {t m : Nat} {ns : List yN} (ht : zTre h t m ns) : m < 2 ^ 31 ∧ ns.length ≤ m := by
  obtain ⟨K, N, L, R, _, hr, hl, _⟩ := ht
  exact ⟨by rw [← hl.1]; exact hr.1.2.2, hl.2.2.2.2⟩
theorem zTre_rc {h : zH} {t m : Nat} {ns : List yN} {X : zR} (ht : zTre h t m ns) : zrc (h.1 t) 6 X = X := by
  obtain ⟨K, N, L, R, h0, _⟩ := ht
  rw [h0]
  exact zrc_k
theorem zTre_fr {h h' : zH} {lo hi t m : Nat} {ns : List yN} (ht : zTre h t m ns) (hf : zfr lo hi h h') (hq : t + 9 ≤ lo ∨ hi ≤ t) : zTre h' t m ns := by
  obtain ⟨K, N, L, R, h0, ⟨h1, h2, h3, h4⟩, h5⟩ := ht
  exact ⟨K, N, L, R, by rw [hf.1 t (by omega), h0], ⟨zRow_fr h1 hf (by omega), zRow_fr h2 hf (by omega), zRow_fr h3 hf (by omega), zRow_fr h4 hf (by omega)⟩, h5⟩
section ZDB
variable {sv : Nat → Value} {d : Nat} {h : zH} {t m : Nat} {ns : List yN}
theorem d_182 (ht : zTre h t m ns) : zcall zP sv (d + 1) 182 [.ref t] h = some (.inl (some (.int (nI ns.length))), h) := by
  obtain ⟨K, N, L, R, h0, _⟩ := ht
  rw [zc_182, zs_182_0, zs_182_1, h0, zTc, zf_6_5, zs_182_4]
theorem d_183 (ht : zTre h t m ns) : zcall zP sv (d + 1) 183 [.ref t] h = some (.inl (some (.int (nI ns.length - nI 1))), h) := by
  obtain ⟨K, N, L, R, h0, _⟩ := ht
  rw [zc_183, zs_183_0, zs_183_1, h0, zTc, zf_6_5, zs_183_4, zs_183_5, zs_183_6]
theorem d_184 {i : Nat} {nd : yN} (ht : zTre h t m ns) (hi : ns[i]? = some nd) : zcall zP sv (d + 2) 184 [.ref t, .int (nI i)] h = some (.inl (some (.int nd.1)), h) := by
  have hm := zTre_lt ht
  have hl := (List.getElem?_eq_some_iff.mp hi).1
  obtain ⟨K, N, L, R, h0, hr, _, h1, _⟩ := ht
  have e1 := ytk_at h1 (by rw [List.getElem?_map, hi]; rfl)
  rw [zc_184, zs_184_0, zs_184_1, h0, zTc, zf_6_0, zs_184_4, zs_184_5, zRow_rc hr.1, d_165 hr.1, zbk_v, zts_s, zs_184_8, yg_e (by omega) e1]
theorem d_185 {i : Nat} {nd : yN} (ht : zTre h t m ns) (hi : ns[i]? = some nd) : zcall zP sv (d + 2) 185 [.ref t, .int (nI i)] h = some (.inl (some (.int nd.2.1)), h) := by
  have hm := zTre_lt ht
  have hl := (List.getElem?_eq_some_iff.mp hi).1
  obtain ⟨K, N, L, R, h0, hr, _, _, h1, _⟩ := ht
  have e1 := ytk_at h1 (by rw [List.getElem?_map, hi]; rfl)
  rw [zc_185, zs_185_0, zs_185_1, h0, zTc, zf_6_1, zs_185_4, zs_185_5, zRow_rc hr.2.1, d_165 hr.2.1, zbk_v, zts_s, zs_185_8, yg_e (by omega) e1]
theorem d_186 {i : Nat} {nd : yN} (ht : zTre h t m ns) (hi : ns[i]? = some nd) : zcall zP sv (d + 2) 186 [.ref t, .int (nI i)] h = some (.inl (some (.int nd.2.2.1)), h) := by
  have hm := zTre_lt ht
  have hl := (List.getElem?_eq_some_iff.mp hi).1
  obtain ⟨K, N, L, R, h0, hr, _, _, _, h1, _⟩ := ht
  have e1 := ytk_at h1 (by rw [List.getElem?_map, hi]; rfl)
  rw [zc_186, zs_186_0, zs_186_1, h0, zTc, zf_6_2, zs_186_4, zs_186_5, zRow_rc hr.2.2.1, d_165 hr.2.2.1, zbk_v, zts_s, zs_186_8, yg_e (by omega) e1]
theorem d_187 {i : Nat} {nd : yN} (ht : zTre h t m ns) (hi : ns[i]? = some nd) : zcall zP sv (d + 2) 187 [.ref t, .int (nI i)] h = some (.inl (some (.int nd.2.2.2)), h) := by
  have hm := zTre_lt ht
  have hl := (List.getElem?_eq_some_iff.mp hi).1
  obtain ⟨K, N, L, R, h0, hr, _, _, _, _, h1⟩ := ht
  have e1 := ytk_at h1 (by rw [List.getElem?_map, hi]; rfl)
  rw [zc_187, zs_187_0, zs_187_1, h0, zTc, zf_6_3, zs_187_4, zs_187_5, zRow_rc hr.2.2.2, d_165 hr.2.2.2, zbk_v, zts_s, zs_187_8, yg_e (by omega) e1]
theorem d_190 (ht : zTre h t m ns) : ∃ h', zcall zP sv (d + 1) 190 [.ref t] h = some (.inl none, h') ∧ zTre h' t m [] ∧ zfr t (t + 9) h h' := by
  obtain ⟨K, N, L, R, h0, ⟨h1, h2, h3, h4⟩, h5, _⟩ := ht
  refine ⟨zup h t (zTc t m 0), ?_, ⟨K, N, L, R, zup_at, ⟨zRow_up h1 (by omega) (by omega), zRow_up h2 (by omega) (by omega), zRow_up h3 (by omega) (by omega), zRow_up h4 (by omega) (by omega)⟩, ⟨h5.1, h5.2.1, h5.2.2.1, h5.2.2.2.1, Nat.zero_le _⟩, rfl, rfl, rfl, rfl⟩, zfr_up (by omega) (by omega)⟩
  rw [zc_190, zs_190_0, zs_190_1, zs_190_2, h0, zTc, zp_6_5, zs_190_5, zTc, nI_0]
theorem d_191f {k n l r : Int32} (ht : zTre h t m ns) (hn : ns.length = m) : zcall zP sv (d + 2) 191 [.ref t, .int k, .int n, .int l, .int r] h = some (.inl (some (.int (-1))), h) := by
  have hm := zTre_lt ht
  obtain ⟨K, N, L, R, h0, _⟩ := ht
  rw [zc_191, zs_191_0, zs_191_1, h0, zTc, zf_6_5, zs_191_4, zs_191_5, h0, zTc, zf_6_4, zs_191_8, if_neg (nI_nlt (by omega) (by omega)), zs_191_11, zs_191_12]
theorem d_191 {k n l r : Int32} (ht : zTre h t m ns) (hn : ns.length < m) : ∃ h', zcall zP sv (d + 2) 191 [.ref t, .int k, .int n, .int l, .int r] h = some (.inl (some (.int (nI ns.length))), h') ∧ zTre h' t m (ns ++ [(k, n, l, r)]) ∧ zfr t (t + 9) h h' := by
  have hm := zTre_lt ht
  obtain ⟨K, N, L, R, h0, ⟨h1, h2, h3, h4⟩, h5, t1, t2, t3, t4⟩ := ht
  have hn2 : ns.length < 2 ^ 31 := by omega
  have b1 := zRow_new h1 (B := ys K (nI ns.length) k) ys_len
  have b2 := zRow_up h2 (a := t + 1 + 1) (c := (20, (ys K (nI ns.length) k).map Value.int)) (by omega) (by omega)
  have b3 := zRow_up h3 (a := t + 1 + 1) (c := (20, (ys K (nI ns.length) k).map Value.int)) (by omega) (by omega)
  have b4 := zRow_up h4 (a := t + 1 + 1) (c := (20, (ys K (nI ns.length) k).map Value.int)) (by omega) (by omega)
  have f1 : zfr t (t + 9) h (zup h (t + 1 + 1) (20, (ys K (nI ns.length) k).map Value.int)) := zfr_up (by omega) (by omega)
  have g1 : (zup h (t + 1 + 1) (20, (ys K (nI ns.length) k).map Value.int)).1 t = zTc t m ns.length := by rw [zup_ne (by omega), h0]
  have e1 := d_166 (sv := sv) (d := d) (x := nI ns.length) (y := k) h1
  generalize zup h (t + 1 + 1) (20, (ys K (nI ns.length) k).map Value.int) = ha at *
  have e2 := d_166 (sv := sv) (d := d) (x := nI ns.length) (y := n) b2
  have c1 := zRow_up b1 (a := t + 3 + 1) (c := (20, (ys N (nI ns.length) n).map Value.int)) (by omega) (by omega)
  have c2 := zRow_new b2 (B := ys N (nI ns.length) n) ys_len
  have c3 := zRow_up b3 (a := t + 3 + 1) (c := (20, (ys N (nI ns.length) n).map Value.int)) (by omega) (by omega)
  have c4 := zRow_up b4 (a := t + 3 + 1) (c := (20, (ys N (nI ns.length) n).map Value.int)) (by omega) (by omega)
  have f2 := zfr_tr f1 (zfr_up (c := (20, (ys N (nI ns.length) n).map Value.int)) (show t ≤ t + 3 + 1 by omega) (by omega))
  have g2 : (zup ha (t + 3 + 1) (20, (ys N (nI ns.length) n).map Value.int)).1 t = zTc t m ns.length := by rw [zup_ne (by omega), g1]
  generalize zup ha (t + 3 + 1) (20, (ys N (nI ns.length) n).map Value.int) = hb at *
  have e3 := d_166 (sv := sv) (d := d) (x := nI ns.length) (y := l) c3
  have i1 := zRow_up c1 (a := t + 5 + 1) (c := (20, (ys L (nI ns.length) l).map Value.int)) (by omega) (by omega)
  have i2 := zRow_up c2 (a := t + 5 + 1) (c := (20, (ys L (nI ns.length) l).map Value.int)) (by omega) (by omega)
  have i3 := zRow_new c3 (B := ys L (nI ns.length) l) ys_len
  have i4 := zRow_up c4 (a := t + 5 + 1) (c := (20, (ys L (nI ns.length) l).map Value.int)) (by omega) (by omega)
  have f3 := zfr_tr f2 (zfr_up (c := (20, (ys L (nI ns.length) l).map Value.int)) (show t ≤ t + 5 + 1 by omega) (by omega))
  have g3 : (zup hb (t + 5 + 1) (20, (ys L (nI ns.length) l).map Value.int)).1 t = zTc t m ns.length := by rw [zup_ne (by omega), g2]
  generalize zup hb (t + 5 + 1) (20, (ys L (nI ns.length) l).map Value.int) = hc at *
  have e4 := d_166 (sv := sv) (d := d) (x := nI ns.length) (y := r) i4
  have j1 := zRow_up i1 (a := t + 7 + 1) (c := (20, (ys R (nI ns.length) r).map Value.int)) (by omega) (by omega)
  have j2 := zRow_up i2 (a := t + 7 + 1) (c := (20, (ys R (nI ns.length) r).map Value.int)) (by omega) (by omega)
  have j3 := zRow_up i3 (a := t + 7 + 1) (c := (20, (ys R (nI ns.length) r).map Value.int)) (by omega) (by omega)
  have j4 := zRow_new i4 (B := ys R (nI ns.length) r) ys_len
  have f4 := zfr_tr f3 (zfr_up (c := (20, (ys R (nI ns.length) r).map Value.int)) (show t ≤ t + 7 + 1 by omega) (by omega))
  have g4 : (zup hc (t + 7 + 1) (20, (ys R (nI ns.length) r).map Value.int)).1 t = zTc t m ns.length := by rw [zup_ne (by omega), g3]
  generalize zup hc (t + 7 + 1) (20, (ys R (nI ns.length) r).map Value.int) = hd at *
  have hlen : (ns ++ [(k, n, l, r)]).length = ns.length + 1 := by rw [List.length_append]; rfl
  refine ⟨zup hd t (zTc t m (ns ++ [(k, n, l, r)]).length), ?_, ⟨ys K (nI ns.length) k, ys N (nI ns.length) n, ys L (nI ns.length) l, ys R (nI ns.length) r, zup_at, ⟨zRow_up j1 (by omega) (by omega), zRow_up j2 (by omega) (by omega), zRow_up j3 (by omega) (by omega), zRow_up j4 (by omega) (by omega)⟩, ⟨by rw [ys_len]; omega, by rw [ys_len]; omega, by rw [ys_len]; omega, by rw [ys_len]; omega, by rw [hlen]; omega⟩, ?_, ?_, ?_, ?_⟩, zfr_tr f4 (zfr_up (by omega) (by omega))⟩
  · rw [zc_191, zs_191_0, zs_191_1, h0, zTc, zf_6_5, zs_191_4, zs_191_5, h0, zTc, zf_6_4, zs_191_8, if_pos (nI_lt hn (by omega)), zs_191_13, zs_191_14, h0, zTc, zf_6_0, zs_191_17, zs_191_18, h0, zTc, zf_6_5, zs_191_21, zs_191_22, zRow_rc h1, e1, zbk_v, zts_n, zs_191_25, zs_191_26, g1, zTc, zf_6_1, zs_191_29, zs_191_30, g1, zTc, zf_6_5, zs_191_33, zs_191_34, zRow_rc b2, e2, zbk_v, zts_n, zs_191_37, zs_191_38, g2, zTc, zf_6_2, zs_191_41, zs_191_42, g2, zTc, zf_6_5, zs_191_45, zs_191_46, zRow_rc c3, e3, zbk_v, zts_n, zs_191_49, zs_191_50, g3, zTc, zf_6_3, zs_191_53, zs_191_54, g3, zTc, zf_6_5, zs_191_57, zs_191_59, zRow_rc i4, e4, zbk_v, zts_n, zs_191_62, zs_191_63, zs_191_64, g4, zTc, zf_6_5, zs_191_67, zs_191_68, zs_191_69, g4, zTc, zp_6_5, zs_191_72, zs_191_73, zup_at, zf_6_5, zs_191_76, zs_191_77, zs_191_78, nI_1', hlen, zTc, ← nI_add, Int32.add_sub_cancel]
  · rw [hlen, ys_k hn2, ytk_set t1 (by omega), List.map_append]; rfl
  · rw [hlen, ys_k hn2, ytk_set t2 (by omega), List.map_append]; rfl
  · rw [hlen, ys_k hn2, ytk_set t3 (by omega), List.map_append]; rfl
  · rw [hlen, ys_k hn2, ytk_set t4 (by omega), List.map_append]; rfl
end ZDB

theorem zty_5x {c : Prop} [Decidable c] : zty 5 (.int (if c then nI 1 else 0)) = true := by
  by_cases h : c
  · rw [if_pos h]; rfl
  · rw [if_neg h]; rfl
section ZDC
variable {sv : Nat → Value} {d : Nat} {h : zH} {t m : Nat} {ns : List yN}
theorem d_184n (ht : zTre h t m ns) : zcall zP sv (d + 2) 184 [.ref t, .int (-1)] h = some (.inl (some (.int 0)), h) := by
  obtain ⟨K, N, L, R, h0, hr, _⟩ := ht
  rw [zc_184, zs_184_0, zs_184_1, h0, zTc, zf_6_0, zs_184_4, zs_184_5, zRow_rc hr.1, d_165 hr.1, zbk_v, zts_s, zs_184_8, yg_n]
theorem d_188 {i : Nat} {c : Int32} {nd : yN} (ht : zTre h t m ns) (hi : ns[i]? = some nd) : zcall zP sv (d + 3) 188 [.ref t, .int (nI i), .int c] h = some (.inl (some (.int (if nd.1 = nI 118 ∧ nd.2.1 = c then nI 1 else 0))), h) := by
  rw [zc_188, zs_188_0, zs_188_1, zs_188_2, zTre_rc ht, d_184 ht hi, zbk_v, zts_s, zs_188_5, zs_188_7]
  by_cases h1 : nd.1 = nI 118
  · rw [if_pos h1, zs_188_10, zs_188_11, zs_188_12, zTre_rc ht, d_185 ht hi, zbk_v, zts_s, zs_188_15, zs_188_16]
    by_cases h2 : nd.2.1 = c
    · rw [if_pos h2, zs_188_19, zs_188_20, zs_188_24, if_pos ⟨h1, h2⟩, zty_51, zgd_t]
    · rw [if_neg h2, zs_188_23, zs_188_24, if_neg (fun h3 => h2 h3.2), zty_50, zgd_t]
  · rw [if_neg h1, zs_188_23, zs_188_24, if_neg (fun h3 => h1 h3.1), zty_50, zgd_t]
theorem d_189 {i : Nat} {c : Int32} {nd : yN} (ht : zTre h t m ns) (hi : ns[i]? = some nd) : zcall zP sv (d + 3) 189 [.ref t, .int (nI i), .int c] h = some (.inl (some (.int (if nd.1 = nI 99 ∧ nd.2.1 = c then nI 1 else 0))), h) := by
  rw [zc_189, zs_189_0, zs_189_1, zs_189_2, zTre_rc ht, d_184 ht hi, zbk_v, zts_s, zs_189_5, zs_189_7]
  by_cases h1 : nd.1 = nI 99
  · rw [if_pos h1, zs_189_10, zs_189_11, zs_189_12, zTre_rc ht, d_185 ht hi, zbk_v, zts_s, zs_189_15, zs_189_16]
    by_cases h2 : nd.2.1 = c
    · rw [if_pos h2, zs_189_19, zs_189_20, zs_189_24, if_pos ⟨h1, h2⟩, zty_51, zgd_t]
    · rw [if_neg h2, zs_189_23, zs_189_24, if_neg (fun h3 => h2 h3.2), zty_50, zgd_t]
  · rw [if_neg h1, zs_189_23, zs_189_24, if_neg (fun h3 => h1 h3.1), zty_50, zgd_t]
theorem d_192 {x : Int32} (ht : zTre h t m ns) (hn : ns.length < m) : ∃ h', zcall zP sv (d + 3) 192 [.ref t, .int x] h = some (.inl (some (.int (nI ns.length))), h') ∧ zTre h' t m (ns ++ [(nI 99, x, -1, -1)]) ∧ zfr t (t + 9) h h' := by
  obtain ⟨h', e, w⟩ := d_191 (sv := sv) (d := d) (k := nI 99) (n := x) (l := -1) (r := -1) ht hn
  exact ⟨h', by rw [zc_192, zs_192_0, zs_192_1, zs_192_3, zs_192_4, zs_192_5, zs_192_6, zTre_rc ht, e, zbk_v, zts_s, zs_192_9], w⟩
theorem d_192f {x : Int32} (ht : zTre h t m ns) (hn : ns.length = m) : zcall zP sv (d + 3) 192 [.ref t, .int x] h = some (.inl (some (.int (-1))), h) := by
  rw [zc_192, zs_192_0, zs_192_1, zs_192_3, zs_192_4, zs_192_5, zs_192_6, zTre_rc ht, d_191f ht hn, zbk_v, zts_s, zs_192_9]
theorem d_193 {x : Int32} (ht : zTre h t m ns) (hn : ns.length < m) : ∃ h', zcall zP sv (d + 3) 193 [.ref t, .int x] h = some (.inl (some (.int (nI ns.length))), h') ∧ zTre h' t m (ns ++ [(nI 110, 0, x, -1)]) ∧ zfr t (t + 9) h h' := by
  obtain ⟨h', e, w⟩ := d_191 (sv := sv) (d := d) (k := nI 110) (n := 0) (l := x) (r := -1) ht hn
  exact ⟨h', by rw [zc_193, zs_193_0, zs_193_1, zs_193_3, zs_193_4, zs_193_5, zs_193_6, zTre_rc ht, e, zbk_v, zts_s, zs_193_9], w⟩
theorem d_193f {x : Int32} (ht : zTre h t m ns) (hn : ns.length = m) : zcall zP sv (d + 3) 193 [.ref t, .int x] h = some (.inl (some (.int (-1))), h) := by
  rw [zc_193, zs_193_0, zs_193_1, zs_193_3, zs_193_4, zs_193_5, zs_193_6, zTre_rc ht, d_191f ht hn, zbk_v, zts_s, zs_193_9]
theorem d_194 {k x y : Int32} (ht : zTre h t m ns) (hn : ns.length < m) : ∃ h', zcall zP sv (d + 3) 194 [.ref t, .int k, .int x, .int y] h = some (.inl (some (.int (nI ns.length))), h') ∧ zTre h' t m (ns ++ [(k, 0, x, y)]) ∧ zfr t (t + 9) h h' := by
  obtain ⟨h', e, w⟩ := d_191 (sv := sv) (d := d) (k := k) (n := 0) (l := x) (r := y) ht hn
  exact ⟨h', by rw [zc_194, zs_194_0, zs_194_1, zs_194_2, zs_194_3, zs_194_4, zs_194_5, zTre_rc ht, e, zbk_v, zts_s, zs_194_8], w⟩
theorem d_194f {k x y : Int32} (ht : zTre h t m ns) (hn : ns.length = m) : zcall zP sv (d + 3) 194 [.ref t, .int k, .int x, .int y] h = some (.inl (some (.int (-1))), h) := by
  rw [zc_194, zs_194_0, zs_194_1, zs_194_2, zs_194_3, zs_194_4, zs_194_5, zTre_rc ht, d_191f ht hn, zbk_v, zts_s, zs_194_8]
theorem d_195l {t2 m2 : Nat} {ms : List yN} (hd : t + 9 ≤ t2 ∨ t2 + 9 ≤ t) (hm : ms.length ≤ m) : ∀ n i (h : zH), i + n = ms.length → zTre h t m (ms.take i) → zTre h t2 m2 ms → ∃ h', zrun zP sv (zcall zP sv (d + 2)) 195 6 [.val (.ref t), .val (.ref t2), .val (.int (nI i))] [] h = some (.inl none, h') ∧ zTre h' t m ms ∧ zfr t (t + 9) h h' := by
  intro n
  induction n with
  | zero =>
    intro i h hi ht ht2
    have hl := zTre_lt ht2
    obtain rfl : i = ms.length := by omega
    rw [List.take_length] at ht
    refine ⟨h, ?_, ht, zfr_rfl⟩
    rw [zs_195_6, zs_195_7, zs_195_8, zTre_rc ht2, d_182 ht2, zbk_v, zts_s, zs_195_11, if_neg (nI_nlt (by omega) (by omega)), zs_195_45]
  | succ n ih =>
    intro i h hi ht ht2
    have hl := zTre_lt ht2
    obtain ⟨nd, hnd⟩ : ∃ nd, ms[i]? = some nd := ⟨ms[i]'(by omega), List.getElem?_eq_getElem (by omega)⟩
    have hlen : (ms.take i).length = i := by rw [List.length_take]; omega
    obtain ⟨h1, e1, w1, f1⟩ := d_191 (sv := sv) (d := d) (k := nd.1) (n := nd.2.1) (l := nd.2.2.1) (r := nd.2.2.2) ht (by omega)
    have w2 : zTre h1 t m (ms.take (i + 1)) := by rw [List.take_add_one, hnd]; exact w1
    obtain ⟨h2, e2, w3, f2⟩ := ih (i + 1) h1 (by omega) w2 (zTre_fr ht2 f1 (by omega))
    refine ⟨h2, ?_, w3, zfr_tr f1 f2⟩
    rw [zs_195_6, zs_195_7, zs_195_8, zTre_rc ht2, d_182 ht2, zbk_v, zts_s, zs_195_11, if_pos (nI_lt (by omega) (by omega)), zs_195_14, zs_195_15, zs_195_16, zs_195_17, zTre_rc ht2, d_184 ht2 hnd, zbk_v, zts_s, zs_195_20, zs_195_21, zs_195_22, zTre_rc ht2, d_185 ht2 hnd, zbk_v, zts_s, zs_195_25, zs_195_26, zs_195_27, zTre_rc ht2, d_186 ht2 hnd, zbk_v, zts_s, zs_195_30, zs_195_31, zs_195_32, zTre_rc ht2, d_187 ht2 hnd, zbk_v, zts_s, zs_195_35, zTre_rc ht, e1, zbk_v, zts_s, zs_195_38, zs_195_39, zs_195_42, nI_1', e2]
theorem d_195 {t2 m2 : Nat} {ms : List yN} (ht : zTre h t m ns) (ht2 : zTre h t2 m2 ms) (hd : t + 9 ≤ t2 ∨ t2 + 9 ≤ t) (hm : ms.length ≤ m) : ∃ h', zcall zP sv (d + 3) 195 [.ref t, .ref t2] h = some (.inl none, h') ∧ zTre h' t m ms ∧ zfr t (t + 9) h h' := by
  obtain ⟨h1, e1, w1, f1⟩ := d_190 (sv := sv) (d := d + 1) ht
  obtain ⟨h2, e2, w2, f2⟩ := d_195l (sv := sv) (d := d) hd hm ms.length 0 h1 (Nat.zero_add _) (by rw [List.take_zero]; exact w1) (zTre_fr ht2 f1 (by omega))
  rw [nI_0] at e2
  refine ⟨h2, ?_, w2, zfr_tr f1 f2⟩
  rw [zc_195, zs_195_0, zs_195_1, zTre_rc ht, e1, zbk_v, zts_n, zs_195_4, zs_195_5 znw_u, e2]
end ZDC

/-- terms: a binary tree of the library's serves; kind, number, left, right -/
abbrev yT : Type := Std.DTreeMap.Internal.Impl Int32 (fun _ => Int32)
def ymk (k v : Int32) (l r : yT) : yT := .inner 0 k v l r
def ysz : yT → Nat
  | .leaf => 0
  | .inner _ _ _ l r => ysz l + ysz r + 1
def ydp : yT → Nat
  | .leaf => 0
  | .inner _ _ _ l r => max (ydp l) (ydp r) + 1
def yfo (f : Int32 → Int32 → Int32 → Int32 → Int32) : yT → Int32
  | .leaf => 0
  | .inner _ k v l r => f k v (yfo f l) (yfo f r)
def ynl : yT → Bool
  | .leaf => false
  | .inner _ _ _ _ _ => true
/-- the terms of a Tree's nodes -/
def ygt (ts : List yT) (x : Int32) : yT := if x < 0 then .leaf else ts.getD x.toNatClampNeg .leaf
def ytm (ns : List yN) : List yT := ns.foldl (fun ts nd => ts ++ [ymk nd.1 nd.2.1 (ygt ts nd.2.2.1) (ygt ts nd.2.2.2)]) []
def ych (i : Nat) (x : Int32) : Prop := x = -1 ∨ ∃ j, j < i ∧ x = nI j
def ywf (ns : List yN) : Prop := ns.length < 2 ^ 31 ∧ ∀ (i : Nat) (nd : yN), ns[i]? = some nd → ych i nd.2.2.1 ∧ ych i nd.2.2.2
theorem ytm_snoc {ns : List yN} {nd : yN} : ytm (ns ++ [nd]) = ytm ns ++ [ymk nd.1 nd.2.1 (ygt (ytm ns) nd.2.2.1) (ygt (ytm ns) nd.2.2.2)] := by
  unfold ytm
  rw [List.foldl_append]
  rfl
theorem ytm_len : ∀ (n : Nat) (ns : List yN), ns.length = n → (ytm ns).length = n := by
  intro n
  induction n with
  | zero =>
    intro ns hn
    rw [List.length_eq_zero_iff.mp hn]
    rfl
  | succ n ih =>
    intro ns hn
    have h0 : ns ≠ [] := by intro h1; rw [h1] at hn; cases hn
    rw [← List.dropLast_concat_getLast h0, ytm_snoc, List.length_append, ih ns.dropLast (by rw [List.length_dropLast]; omega)]
    rfl
theorem ytm_l {ns : List yN} : (ytm ns).length = ns.length := ytm_len _ ns rfl
theorem ytm_app {ms : List yN} : ∀ (n : Nat) (ns : List yN), ns.length = n → ∃ ts, ytm (ms ++ ns) = ytm ms ++ ts := by
  intro n
  induction n with
  | zero =>
    intro ns hn
    rw [List.length_eq_zero_iff.mp hn]
    exact ⟨[], by rw [List.append_nil, List.append_nil]⟩
  | succ n ih =>
    intro ns hn
    have h0 : ns ≠ [] := by intro h1; rw [h1] at hn; cases hn
    obtain ⟨ts, e⟩ := ih ns.dropLast (by rw [List.length_dropLast]; omega)
    rw [← List.dropLast_concat_getLast h0, ← List.append_assoc, ytm_snoc, e, List.append_assoc]
    exact ⟨_, rfl⟩
theorem ytm_pre {ms ns : List yN} {i : Nat} (hi : i < ms.length) : (ytm (ms ++ ns))[i]? = (ytm ms)[i]? := by
  obtain ⟨ts, e⟩ := ytm_app (ms := ms) ns.length ns rfl
  rw [e, List.getElem?_append_left (by rw [ytm_l]; exact hi)]
theorem ygt_n {ts : List yT} : ygt ts (-1) = .leaf := by
  unfold ygt
  rw [if_pos (by decide +kernel)]
theorem ygt_k {ts : List yT} {i : Nat} (hi : i < 2 ^ 31) : ygt ts (nI i) = ts.getD i .leaf := by
  unfold ygt
  rw [if_neg (nI_pos hi), nI_clamp hi]
theorem ygt_pre {ms ns : List yN} {x : Int32} (hl : ms.length < 2 ^ 31) (hx : ych ms.length x) : ygt (ytm (ms ++ ns)) x = ygt (ytm ms) x := by
  rcases hx with rfl | ⟨j, hj, rfl⟩
  · rw [ygt_n, ygt_n]
  · rw [ygt_k (by omega), ygt_k (by omega), List.getD_eq_getElem?_getD, List.getD_eq_getElem?_getD, ytm_pre hj]
theorem ych_mono {i j : Nat} {x : Int32} (hx : ych i x) (h : i ≤ j) : ych j x := by
  rcases hx with rfl | ⟨k, hk, rfl⟩
  · exact Or.inl rfl
  · exact Or.inr ⟨k, by omega, rfl⟩
theorem ytm_at {ns : List yN} {i : Nat} {nd : yN} (hw : ywf ns) (hi : ns[i]? = some nd) : (ytm ns)[i]? = some (ymk nd.1 nd.2.1 (ygt (ytm ns) nd.2.2.1) (ygt (ytm ns) nd.2.2.2)) := by
  have hl := (List.getElem?_eq_some_iff.mp hi).1
  have hlt : (ns.take i).length = i := by rw [List.length_take]; omega
  have e1 : ns = (ns.take i ++ [nd]) ++ ns.drop (i + 1) := by
    have : ns.drop i = nd :: ns.drop (i + 1) := by
      rw [List.drop_eq_getElem_cons hl]
      rw [List.getElem?_eq_getElem hl] at hi
      injection hi with hi
      rw [hi]
    rw [List.append_assoc, List.singleton_append, ← this, List.take_append_drop]
  have e2 : (ytm ns)[i]? = (ytm (ns.take i ++ [nd]))[i]? := by
    conv => lhs; rw [e1]
    exact ytm_pre (by rw [List.length_append, hlt]; exact Nat.lt_succ_self _)
  have hc := hw.2 i nd hi
  have hl0 := hw.1
  have e3 : ∀ x, ych i x → ygt (ytm ns) x = ygt (ytm (ns.take i)) x := by
    intro x hx
    conv => lhs; rw [← List.take_append_drop i ns]
    exact ygt_pre (by rw [hlt]; omega) (by rw [hlt]; exact hx)
  rw [e2, ytm_snoc, List.getElem?_append_right (by rw [ytm_l, hlt]; exact Nat.le_refl _), ytm_l, hlt, Nat.sub_self, e3 _ hc.1, e3 _ hc.2]
  rfl
theorem ywf_nil : ywf [] := ⟨by decide, fun i nd h => by cases h⟩
theorem ywf_snoc {ns : List yN} {nd : yN} (hw : ywf ns) (h1 : ych ns.length nd.2.2.1) (h2 : ych ns.length nd.2.2.2) (hl : ns.length + 1 < 2 ^ 31) : ywf (ns ++ [nd]) := by
  refine ⟨by rw [List.length_append]; exact hl, fun i nd' hi => ?_⟩
  by_cases h3 : i < ns.length
  · rw [List.getElem?_append_left h3] at hi
    exact hw.2 i nd' hi
  · have h4 := (List.getElem?_eq_some_iff.mp hi).1
    rw [List.length_append] at h4
    have h5 : i = ns.length := by
      have : [nd].length = 1 := rfl
      omega
    subst h5
    rw [List.getElem?_append_right (Nat.le_refl _), Nat.sub_self] at hi
    injection hi with hi
    subst hi
    exact ⟨h1, h2⟩
/-- a row that holds a fold of the first i nodes -/
def yQ (f : Int32 → Int32 → Int32 → Int32 → Int32) (ns : List yN) (A : List Int32) (i : Nat) : Prop := ∀ (j : Nat) (t : yT), j < i → (ytm ns)[j]? = some t → A[j]? = some (yfo f t)
theorem yQ_g {f : Int32 → Int32 → Int32 → Int32 → Int32} {ns : List yN} {A : List Int32} {i : Nat} {x : Int32} (hq : yQ f ns A i) (hx : ych i x) (hi : i ≤ ns.length) (hl : ns.length < 2 ^ 31) : yg A x = yfo f (ygt (ytm ns) x) := by
  rcases hx with rfl | ⟨j, hj, rfl⟩
  · rw [yg_n, ygt_n]; rfl
  · have e1 : (ytm ns)[j]? = some ((ytm ns)[j]'(by rw [ytm_l]; omega)) := List.getElem?_eq_getElem _
    rw [yg_e (by omega) (hq j _ hj e1), ygt_k (by omega), List.getD_eq_getElem?_getD, e1]
    rfl
theorem yQ_0 {f : Int32 → Int32 → Int32 → Int32 → Int32} {ns : List yN} {A : List Int32} : yQ f ns A 0 := fun j t hj => absurd hj (Nat.not_lt_zero j)
theorem yQ_s {f : Int32 → Int32 → Int32 → Int32 → Int32} {ns : List yN} {A : List Int32} {i : Nat} {nd : yN} (hw : ywf ns) (hi : ns[i]? = some nd) (hA : i < A.length) (hq : yQ f ns A i) : yQ f ns (A.set i (f nd.1 nd.2.1 (yg A nd.2.2.1) (yg A nd.2.2.2))) (i + 1) := by
  have hl := (List.getElem?_eq_some_iff.mp hi).1
  have hc := hw.2 i nd hi
  intro j t hj ht
  by_cases h1 : j = i
  · subst h1
    rw [ytm_at hw hi] at ht
    injection ht with ht
    subst ht
    rw [List.getElem?_set_self hA, yQ_g hq hc.1 (by omega) hw.1, yQ_g hq hc.2 (by omega) hw.1]
    rfl
  · rw [List.getElem?_set_ne (Ne.symm h1)]
    exact hq j t (by omega) ht
theorem yQ_x {f g : Int32 → Int32 → Int32 → Int32 → Int32} {ns : List yN} {A : List Int32} {i : Nat} (hq : yQ f ns A i) (he : ∀ t, yfo f t = yfo g t) : yQ g ns A i := fun j t hj ht => by rw [hq j t hj ht, he]
/-- the nodes of a term in post-order, from a place on -/
def yri (off : Nat) : yT → Int32
  | .leaf => -1
  | .inner _ _ _ l r => nI (off + ysz l + ysz r)
def ypo : Nat → yT → List yN
  | _, .leaf => []
  | off, .inner _ k v l r => ypo off l ++ ypo (off + ysz l) r ++ [(k, v, yri off l, yri (off + ysz l) r)]
theorem ypo_len : ∀ (t : yT) (off : Nat), (ypo off t).length = ysz t
  | .leaf, _ => rfl
  | .inner _ k v l r, off => by
    unfold ypo ysz
    rw [List.length_append, List.length_append, ypo_len l, ypo_len r]
    rfl

def yIo (k : Int32) : Prop := k = nI 43 ∨ k = nI 45 ∨ k = nI 42
def yop (k a b : Int32) : Int32 := if k = nI 110 then -a else if k = nI 43 then a + b else if k = nI 45 then a - b else if k = nI 42 then a * b else 0
def ymx (x y : Int32) : Int32 := if x < y then y else x
def yfN (_ _ a b : Int32) : Int32 := nI 1 + a + b
def yfL (_ _ a b : Int32) : Int32 := nI 1 + ymx a b
def zGc (g : Nat) : zC := (10, [.ref (g + 1), .ref (g + 3), .ref (g + 5)])
/-- a Gauge at g: three rows of 124 -/
def zGau (h : zH) (g : Nat) (A B C : List Int32) : Prop := h.1 g = zGc g ∧ zRow h (g + 1) A ∧ zRow h (g + 3) B ∧ zRow h (g + 5) C ∧ A.length = 124 ∧ B.length = 124 ∧ C.length = 124
theorem zGau_rc {h : zH} {g : Nat} {A B C : List Int32} {X : zR} (hg : zGau h g A B C) : zrc (h.1 g) 10 X = X := by
  rw [hg.1]
  exact zrc_k
theorem zGau_fr {h h' : zH} {lo hi g : Nat} {A B C : List Int32} (hg : zGau h g A B C) (hf : zfr lo hi h h') (hq : g + 7 ≤ lo ∨ hi ≤ g) : zGau h' g A B C := ⟨by rw [hf.1 g (by omega), hg.1], zRow_fr hg.2.1 hf (by omega), zRow_fr hg.2.2.1 hf (by omega), zRow_fr hg.2.2.2.1 hf (by omega), hg.2.2.2.2⟩
theorem zGau_1 {h : zH} {g : Nat} {A B C A' : List Int32} (hg : zGau h g A B C) (hA : A'.length = 124) : zGau (zup h (g + 1 + 1) (20, A'.map Value.int)) g A' B C := ⟨by rw [zup_ne (by omega), hg.1], zRow_new hg.2.1 (by rw [hA, hg.2.2.2.2.1]), zRow_up hg.2.2.1 (by omega) (by omega), zRow_up hg.2.2.2.1 (by omega) (by omega), hA, hg.2.2.2.2.2⟩
theorem zGau_2 {h : zH} {g : Nat} {A B C A' : List Int32} (hg : zGau h g A B C) (hA : A'.length = 124) : zGau (zup h (g + 3 + 1) (20, A'.map Value.int)) g A A' C := ⟨by rw [zup_ne (by omega), hg.1], zRow_up hg.2.1 (by omega) (by omega), zRow_new hg.2.2.1 (by rw [hA, hg.2.2.2.2.2.1]), zRow_up hg.2.2.2.1 (by omega) (by omega), hg.2.2.2.2.1, hA, hg.2.2.2.2.2.2⟩
theorem zGau_3 {h : zH} {g : Nat} {A B C A' : List Int32} (hg : zGau h g A B C) (hA : A'.length = 124) : zGau (zup h (g + 5 + 1) (20, A'.map Value.int)) g A B A' := ⟨by rw [zup_ne (by omega), hg.1], zRow_up hg.2.1 (by omega) (by omega), zRow_up hg.2.2.1 (by omega) (by omega), zRow_new hg.2.2.2.1 (by rw [hA, hg.2.2.2.2.2.2]), hg.2.2.2.2.1, hg.2.2.2.2.2.1, hA⟩
theorem ynd_ex {ns : List yN} {i : Nat} (hi : i < ns.length) : ∃ nd, ns[i]? = some nd := ⟨ns[i], List.getElem?_eq_getElem hi⟩

theorem zsw_ne {tab : List (Int × Nat)} {j : Nat} {x : Int32} (h : ∀ q, q ∈ tab → q.1 ≠ x.toInt) : zswp tab j x = j := by
  unfold zswp
  have : tab.find? (fun q => q.1 == x.toInt) = none := by
    rw [List.find?_eq_none]
    intro q hq he
    exact h q hq (by simpa using he)
  rw [this]
  rfl
theorem nI_neI {x : Int32} {k : Nat} (hk : k < 2 ^ 31) (h : ¬ x = nI k) : (k : Int) ≠ x.toInt := fun h1 => h (by
  rw [← nI_toInt hk] at h1
  exact (Int32.toInt_inj.mp h1).symm)
theorem zsw_84 {k : Int32} (h1 : ¬ k = nI 110) (h2 : ¬ k = nI 43) (h3 : ¬ k = nI 45) (h4 : ¬ k = nI 42) : zswp (zP.2.2.2.1 0) 59 k = 59 := by
  apply zsw_ne
  intro q hq
  have e0 : zP.2.2.2.1 0 = [(42, 55), (43, 47), (45, 51), (110, 44)] := rfl
  rw [e0] at hq
  simp only [List.mem_cons, List.not_mem_nil, or_false] at hq
  rcases hq with rfl | rfl | rfl | rfl
  · exact nI_neI (k := 42) (by decide) h4
  · exact nI_neI (k := 43) (by decide) h2
  · exact nI_neI (k := 45) (by decide) h3
  · exact nI_neI (k := 110) (by decide) h1
theorem nIx1 : ((nI 43 : Int32) = nI 110) = False := by decide +kernel
theorem nIx2 : ((nI 45 : Int32) = nI 110) = False := by decide +kernel
theorem nIx3 : ((nI 45 : Int32) = nI 43) = False := by decide +kernel
theorem nIx4 : ((nI 42 : Int32) = nI 110) = False := by decide +kernel
theorem nIx5 : ((nI 42 : Int32) = nI 43) = False := by decide +kernel
theorem nIx6 : ((nI 42 : Int32) = nI 45) = False := by decide +kernel
section ZDE
variable {sv : Nat → Value} {d : Nat} {h : zH}
theorem d_84 {k a b : Int32} : zcall zP sv (d + 1) 84 [.int k, .int a, .int b] h = some (.inl (some (.int (yop k a b))), h) := by
  rw [zc_84, zs_84_0, zs_84_1]
  unfold yop
  by_cases h1 : k = nI 110
  · rw [if_pos h1, h1, zw_0_110]
    simp only [zs_84_0, zs_84_1, zs_84_44, zs_84_45, zs_84_46, zs_84_47, zs_84_48, zs_84_49, zs_84_50, zs_84_51, zs_84_52, zs_84_53, zs_84_54, zs_84_55, zs_84_56, zs_84_57, zs_84_58, zs_84_59, zs_84_60]
  · rw [if_neg h1]
    by_cases h2 : k = nI 43
    · rw [if_pos h2, h2, zw_0_43]
      simp only [zs_84_0, zs_84_1, zs_84_44, zs_84_45, zs_84_46, zs_84_47, zs_84_48, zs_84_49, zs_84_50, zs_84_51, zs_84_52, zs_84_53, zs_84_54, zs_84_55, zs_84_56, zs_84_57, zs_84_58, zs_84_59, zs_84_60]
    · rw [if_neg h2]
      by_cases h3 : k = nI 45
      · rw [if_pos h3, h3, zw_0_45]
        simp only [zs_84_0, zs_84_1, zs_84_44, zs_84_45, zs_84_46, zs_84_47, zs_84_48, zs_84_49, zs_84_50, zs_84_51, zs_84_52, zs_84_53, zs_84_54, zs_84_55, zs_84_56, zs_84_57, zs_84_58, zs_84_59, zs_84_60]
      · rw [if_neg h3]
        by_cases h4 : k = nI 42
        · rw [if_pos h4, h4, zw_0_42]
          simp only [zs_84_0, zs_84_1, zs_84_44, zs_84_45, zs_84_46, zs_84_47, zs_84_48, zs_84_49, zs_84_50, zs_84_51, zs_84_52, zs_84_53, zs_84_54, zs_84_55, zs_84_56, zs_84_57, zs_84_58, zs_84_59, zs_84_60]
        · rw [if_neg h4, zsw_84 h1 h2 h3 h4]
          simp only [zs_84_0, zs_84_1, zs_84_44, zs_84_45, zs_84_46, zs_84_47, zs_84_48, zs_84_49, zs_84_50, zs_84_51, zs_84_52, zs_84_53, zs_84_54, zs_84_55, zs_84_56, zs_84_57, zs_84_58, zs_84_59, zs_84_60]
def yis (k : Int32) : Bool := decide (k = nI 43) || decide (k = nI 45) || decide (k = nI 42)
def yb (b : Bool) : Int32 := if b = true then nI 1 else 0
theorem yb_t : yb true = nI 1 := rfl
theorem yb_f : yb false = 0 := rfl
theorem zty_5b {b : Bool} : zty 5 (.int (yb b)) = true := by cases b <;> rfl
theorem d_83 {k : Int32} : zcall zP sv (d + 1) 83 [.int k] h = some (.inl (some (.int (yb (yis k)))), h) := by
  unfold yis
  by_cases h1 : k = nI 43
  · simp only [zc_83, zs_83_0, zs_83_1, zs_83_3, zs_83_6, zs_83_7, zs_83_9, zs_83_12, zs_83_13, zs_83_15, zs_83_18, zs_83_19, zs_83_22, zs_83_23, if_pos h1, zgd_t, zty_51, decide_eq_true h1, Bool.true_or, yb_t]
  · by_cases h2 : k = nI 45
    · simp only [zc_83, zs_83_0, zs_83_1, zs_83_3, zs_83_6, zs_83_7, zs_83_9, zs_83_12, zs_83_13, zs_83_15, zs_83_18, zs_83_19, zs_83_22, zs_83_23, if_neg h1, if_pos h2, zgd_t, zty_51, decide_eq_false h1, decide_eq_true h2, Bool.true_or, Bool.false_or, yb_t]
    · by_cases h3 : k = nI 42
      · simp only [zc_83, zs_83_0, zs_83_1, zs_83_3, zs_83_6, zs_83_7, zs_83_9, zs_83_12, zs_83_13, zs_83_15, zs_83_18, zs_83_19, zs_83_22, zs_83_23, if_neg h1, if_neg h2, if_pos h3, zgd_t, zty_51, decide_eq_false h1, decide_eq_false h2, decide_eq_true h3, Bool.false_or, yb_t]
      · simp only [zc_83, zs_83_0, zs_83_1, zs_83_3, zs_83_6, zs_83_7, zs_83_9, zs_83_12, zs_83_13, zs_83_15, zs_83_18, zs_83_19, zs_83_22, zs_83_23, if_neg h1, if_neg h2, if_neg h3, zgd_t, zty_50, decide_eq_false h1, decide_eq_false h2, decide_eq_false h3, Bool.false_or, yb_f]
end ZDE
def yfP (k _ a b : Int32) : Int32 := if k = nI 118 then nI 1 else if k = nI 42 then a + b else ymx a b
def yfR (T : List Int32) (k v a b : Int32) : Int32 := if k = nI 99 then v else if k = nI 118 then yg T (v - nI 97) else yop k a b
def yfD (k _ a b : Int32) : Int32 := if yis k = true then (if a = b then a + nI 1 else ymx a b) else if k = nI 110 then a else nI 1
def yfO (k _ a b : Int32) : Int32 := if yis k = true then (if ymx b (a + nI 1) < ymx a (b + nI 1) then ymx b (a + nI 1) else ymx a (b + nI 1)) else if k = nI 110 then a else nI 1
section ZDF
variable {sv : Nat → Value} {d : Nat}
theorem d_120 {h : zH} {t m g i : Nat} {ns : List yN} {nd : yN} {A B C : List Int32} (ht : zTre h t m ns) (hg : zGau h g A B C) (hnd : ns[i]? = some nd) : zcall zP sv (d + 3) 120 [.ref g, .ref t, .int (nI i)] h = some (.inl (some (.int (yfP nd.1 nd.2.1 (yg A nd.2.2.1) (yg A nd.2.2.2)))), h) := by
  have e0 := hg.1
  unfold yfP ymx
  by_cases h1 : nd.1 = nI 118
  · simp (disch := exact znw_u) only [zc_120, zs_120_0, zs_120_1, zs_120_2, zs_120_5, zs_120_6, zs_120_7, zs_120_9, zs_120_12, zs_120_13, zs_120_14, zs_120_15, zs_120_18, zs_120_19, zs_120_20, zs_120_23, zs_120_26, zs_120_28, zs_120_29, zs_120_32, zs_120_33, zs_120_34, zs_120_37, zs_120_40, zs_120_42, zs_120_43, zs_120_45, zs_120_48, zs_120_50, zs_120_52, zs_120_53, zs_120_56, zs_120_58, zs_120_60, zs_120_63, zTre_rc ht, d_182 ht, e0, zGc, zrc_10, zf_10_0, zp_10_0, zp_10_0n, zf_10_1, zp_10_1, zp_10_1n, zf_10_2, zp_10_2, zp_10_2n, zRow_rc hg.2.1, d_165 hg.2.1, zRow_rc hg.2.2.2.1, d_165 hg.2.2.2.1, d_184 ht hnd, d_185 ht hnd, d_186 ht hnd, d_187 ht hnd, zbk_v, zts_s, zts_n, if_pos h1]
  · by_cases h2 : nd.1 = nI 42
    · simp (disch := exact znw_u) only [zc_120, zs_120_0, zs_120_1, zs_120_2, zs_120_5, zs_120_6, zs_120_7, zs_120_9, zs_120_12, zs_120_13, zs_120_14, zs_120_15, zs_120_18, zs_120_19, zs_120_20, zs_120_23, zs_120_26, zs_120_28, zs_120_29, zs_120_32, zs_120_33, zs_120_34, zs_120_37, zs_120_40, zs_120_42, zs_120_43, zs_120_45, zs_120_48, zs_120_50, zs_120_52, zs_120_53, zs_120_56, zs_120_58, zs_120_60, zs_120_63, zTre_rc ht, d_182 ht, e0, zGc, zrc_10, zf_10_0, zp_10_0, zp_10_0n, zf_10_1, zp_10_1, zp_10_1n, zf_10_2, zp_10_2, zp_10_2n, zRow_rc hg.2.1, d_165 hg.2.1, zRow_rc hg.2.2.2.1, d_165 hg.2.2.2.1, d_184 ht hnd, d_185 ht hnd, d_186 ht hnd, d_187 ht hnd, zbk_v, zts_s, zts_n, if_neg h1, if_pos h2]
    · simp (disch := exact znw_u) only [zc_120, zs_120_0, zs_120_1, zs_120_2, zs_120_5, zs_120_6, zs_120_7, zs_120_9, zs_120_12, zs_120_13, zs_120_14, zs_120_15, zs_120_18, zs_120_19, zs_120_20, zs_120_23, zs_120_26, zs_120_28, zs_120_29, zs_120_32, zs_120_33, zs_120_34, zs_120_37, zs_120_40, zs_120_42, zs_120_43, zs_120_45, zs_120_48, zs_120_50, zs_120_52, zs_120_53, zs_120_56, zs_120_58, zs_120_60, zs_120_63, zTre_rc ht, d_182 ht, e0, zGc, zrc_10, zf_10_0, zp_10_0, zp_10_0n, zf_10_1, zp_10_1, zp_10_1n, zf_10_2, zp_10_2, zp_10_2n, zRow_rc hg.2.1, d_165 hg.2.1, zRow_rc hg.2.2.2.1, d_165 hg.2.2.2.1, d_184 ht hnd, d_185 ht hnd, d_186 ht hnd, d_187 ht hnd, zbk_v, zts_s, zts_n, if_neg h1, if_neg h2]
theorem d_122 {h : zH} {t m g i : Nat} {ns : List yN} {nd : yN} {A B C : List Int32} {l : Nat} {T : List Int32} (ht : zTre h t m ns) (hg : zGau h g A B C) (hnd : ns[i]? = some nd) (hl : zRow h l T) : zcall zP sv (d + 3) 122 [.ref g, .ref t, .int (nI i), .ref l] h = some (.inl (some (.int (yfR T nd.1 nd.2.1 (yg A nd.2.2.1) (yg A nd.2.2.2)))), h) := by
  have e0 := hg.1
  unfold yfR
  by_cases h1 : nd.1 = nI 99
  · simp (disch := exact znw_u) only [zc_122, zs_122_0, zs_122_1, zs_122_2, zs_122_5, zs_122_7, zs_122_9, zs_122_11, zs_122_14, zs_122_15, zs_122_16, zs_122_19, zs_122_20, zs_122_22, zs_122_24, zs_122_27, zs_122_28, zs_122_29, zs_122_30, zs_122_33, zs_122_35, zs_122_36, zs_122_39, zs_122_40, zs_122_42, zs_122_43, zs_122_46, zs_122_47, zs_122_48, zs_122_51, zs_122_54, zs_122_55, zs_122_58, zs_122_59, zs_122_60, zs_122_63, zs_122_66, zs_122_69, zTre_rc ht, d_182 ht, e0, zGc, zrc_10, zf_10_0, zp_10_0, zp_10_0n, zf_10_1, zp_10_1, zp_10_1n, zf_10_2, zp_10_2, zp_10_2n, zRow_rc hg.2.1, d_165 hg.2.1, zRow_rc hg.2.2.2.1, d_165 hg.2.2.2.1, d_184 ht hnd, d_185 ht hnd, d_186 ht hnd, d_187 ht hnd, zbk_v, zts_s, zts_n, if_pos h1]
  · by_cases h2 : nd.1 = nI 118
    · simp (disch := exact znw_u) only [zc_122, zs_122_0, zs_122_1, zs_122_2, zs_122_5, zs_122_7, zs_122_9, zs_122_11, zs_122_14, zs_122_15, zs_122_16, zs_122_19, zs_122_20, zs_122_22, zs_122_24, zs_122_27, zs_122_28, zs_122_29, zs_122_30, zs_122_33, zs_122_35, zs_122_36, zs_122_39, zs_122_40, zs_122_42, zs_122_43, zs_122_46, zs_122_47, zs_122_48, zs_122_51, zs_122_54, zs_122_55, zs_122_58, zs_122_59, zs_122_60, zs_122_63, zs_122_66, zs_122_69, zTre_rc ht, d_182 ht, e0, zGc, zrc_10, zf_10_0, zp_10_0, zp_10_0n, zf_10_1, zp_10_1, zp_10_1n, zf_10_2, zp_10_2, zp_10_2n, zRow_rc hg.2.1, d_165 hg.2.1, zRow_rc hg.2.2.2.1, d_165 hg.2.2.2.1, d_184 ht hnd, d_185 ht hnd, d_186 ht hnd, d_187 ht hnd, zbk_v, zts_s, zts_n, if_neg h1, if_pos h2, zRow_rc hl, d_165 hl]
    · simp (disch := exact znw_u) only [zc_122, zs_122_0, zs_122_1, zs_122_2, zs_122_5, zs_122_7, zs_122_9, zs_122_11, zs_122_14, zs_122_15, zs_122_16, zs_122_19, zs_122_20, zs_122_22, zs_122_24, zs_122_27, zs_122_28, zs_122_29, zs_122_30, zs_122_33, zs_122_35, zs_122_36, zs_122_39, zs_122_40, zs_122_42, zs_122_43, zs_122_46, zs_122_47, zs_122_48, zs_122_51, zs_122_54, zs_122_55, zs_122_58, zs_122_59, zs_122_60, zs_122_63, zs_122_66, zs_122_69, zTre_rc ht, d_182 ht, e0, zGc, zrc_10, zf_10_0, zp_10_0, zp_10_0n, zf_10_1, zp_10_1, zp_10_1n, zf_10_2, zp_10_2, zp_10_2n, zRow_rc hg.2.1, d_165 hg.2.1, zRow_rc hg.2.2.2.1, d_165 hg.2.2.2.1, d_184 ht hnd, d_185 ht hnd, d_186 ht hnd, d_187 ht hnd, zbk_v, zts_s, zts_n, if_neg h1, if_neg h2, d_84]
theorem d_127 {h : zH} {t m g i : Nat} {ns : List yN} {nd : yN} {A B C : List Int32} (ht : zTre h t m ns) (hg : zGau h g A B C) (hnd : ns[i]? = some nd) : zcall zP sv (d + 3) 127 [.ref g, .ref t, .int (nI i)] h = some (.inl (some (.int (yfD nd.1 nd.2.1 (yg C nd.2.2.1) (yg C nd.2.2.2)))), h) := by
  have e0 := hg.1
  unfold yfD ymx
  cases h1 : yis nd.1 with
  | true =>
    by_cases h2 : yg C nd.2.2.1 = yg C nd.2.2.2
    · simp (disch := exact znw_u) only [zc_127, zs_127_0, zs_127_1, zs_127_4, zs_127_5, zs_127_6, zs_127_9, zs_127_12, zs_127_13, zs_127_14, zs_127_17, zs_127_18, zs_127_19, zs_127_22, zs_127_25, zs_127_27, zs_127_28, zs_127_29, zs_127_32, zs_127_35, zs_127_38, zs_127_39, zs_127_41, zs_127_44, zs_127_45, zs_127_46, zs_127_47, zs_127_50, zs_127_51, zs_127_53, zs_127_56, zs_127_57, zs_127_58, zs_127_59, zs_127_62, zs_127_64, zs_127_67, zs_127_68, zs_127_71, zs_127_72, zTre_rc ht, d_182 ht, e0, zGc, zrc_10, zf_10_0, zp_10_0, zp_10_0n, zf_10_1, zp_10_1, zp_10_1n, zf_10_2, zp_10_2, zp_10_2n, zRow_rc hg.2.1, d_165 hg.2.1, zRow_rc hg.2.2.2.1, d_165 hg.2.2.2.1, d_184 ht hnd, d_185 ht hnd, d_186 ht hnd, d_187 ht hnd, zbk_v, zts_s, zts_n, d_83, h1, yb_t, nI_1e0, if_pos h2, ↓reduceIte]
    · simp (disch := exact znw_u) only [zc_127, zs_127_0, zs_127_1, zs_127_4, zs_127_5, zs_127_6, zs_127_9, zs_127_12, zs_127_13, zs_127_14, zs_127_17, zs_127_18, zs_127_19, zs_127_22, zs_127_25, zs_127_27, zs_127_28, zs_127_29, zs_127_32, zs_127_35, zs_127_38, zs_127_39, zs_127_41, zs_127_44, zs_127_45, zs_127_46, zs_127_47, zs_127_50, zs_127_51, zs_127_53, zs_127_56, zs_127_57, zs_127_58, zs_127_59, zs_127_62, zs_127_64, zs_127_67, zs_127_68, zs_127_71, zs_127_72, zTre_rc ht, d_182 ht, e0, zGc, zrc_10, zf_10_0, zp_10_0, zp_10_0n, zf_10_1, zp_10_1, zp_10_1n, zf_10_2, zp_10_2, zp_10_2n, zRow_rc hg.2.1, d_165 hg.2.1, zRow_rc hg.2.2.2.1, d_165 hg.2.2.2.1, d_184 ht hnd, d_185 ht hnd, d_186 ht hnd, d_187 ht hnd, zbk_v, zts_s, zts_n, d_83, h1, yb_t, nI_1e0, if_neg h2, ↓reduceIte]
  | false =>
    by_cases h2 : nd.1 = nI 110
    · simp (disch := exact znw_u) only [zc_127, zs_127_0, zs_127_1, zs_127_4, zs_127_5, zs_127_6, zs_127_9, zs_127_12, zs_127_13, zs_127_14, zs_127_17, zs_127_18, zs_127_19, zs_127_22, zs_127_25, zs_127_27, zs_127_28, zs_127_29, zs_127_32, zs_127_35, zs_127_38, zs_127_39, zs_127_41, zs_127_44, zs_127_45, zs_127_46, zs_127_47, zs_127_50, zs_127_51, zs_127_53, zs_127_56, zs_127_57, zs_127_58, zs_127_59, zs_127_62, zs_127_64, zs_127_67, zs_127_68, zs_127_71, zs_127_72, zTre_rc ht, d_182 ht, e0, zGc, zrc_10, zf_10_0, zp_10_0, zp_10_0n, zf_10_1, zp_10_1, zp_10_1n, zf_10_2, zp_10_2, zp_10_2n, zRow_rc hg.2.1, d_165 hg.2.1, zRow_rc hg.2.2.2.1, d_165 hg.2.2.2.1, d_184 ht hnd, d_185 ht hnd, d_186 ht hnd, d_187 ht hnd, zbk_v, zts_s, zts_n, d_83, h1, yb_f, if_pos h2, ↓reduceIte, Bool.false_eq_true]
    · simp (disch := exact znw_u) only [zc_127, zs_127_0, zs_127_1, zs_127_4, zs_127_5, zs_127_6, zs_127_9, zs_127_12, zs_127_13, zs_127_14, zs_127_17, zs_127_18, zs_127_19, zs_127_22, zs_127_25, zs_127_27, zs_127_28, zs_127_29, zs_127_32, zs_127_35, zs_127_38, zs_127_39, zs_127_41, zs_127_44, zs_127_45, zs_127_46, zs_127_47, zs_127_50, zs_127_51, zs_127_53, zs_127_56, zs_127_57, zs_127_58, zs_127_59, zs_127_62, zs_127_64, zs_127_67, zs_127_68, zs_127_71, zs_127_72, zTre_rc ht, d_182 ht, e0, zGc, zrc_10, zf_10_0, zp_10_0, zp_10_0n, zf_10_1, zp_10_1, zp_10_1n, zf_10_2, zp_10_2, zp_10_2n, zRow_rc hg.2.1, d_165 hg.2.1, zRow_rc hg.2.2.2.1, d_165 hg.2.2.2.1, d_184 ht hnd, d_185 ht hnd, d_186 ht hnd, d_187 ht hnd, zbk_v, zts_s, zts_n, d_83, h1, yb_f, if_neg h2, ↓reduceIte, Bool.false_eq_true]
theorem d_129 {h : zH} {t m g i : Nat} {ns : List yN} {nd : yN} {A B C : List Int32} (ht : zTre h t m ns) (hg : zGau h g A B C) (hnd : ns[i]? = some nd) : zcall zP sv (d + 3) 129 [.ref g, .ref t, .int (nI i)] h = some (.inl (some (.int (yfO nd.1 nd.2.1 (yg A nd.2.2.1) (yg A nd.2.2.2)))), h) := by
  have e0 := hg.1
  unfold yfO ymx
  cases h1 : yis nd.1 with
  | true => simp (disch := exact znw_u) only [zc_129, zs_129_0, zs_129_1, zs_129_4, zs_129_5, zs_129_6, zs_129_9, zs_129_12, zs_129_13, zs_129_14, zs_129_17, zs_129_18, zs_129_19, zs_129_22, zs_129_25, zs_129_27, zs_129_28, zs_129_29, zs_129_32, zs_129_35, zs_129_38, zs_129_39, zs_129_41, zs_129_42, zs_129_43, zs_129_46, zs_129_48, zs_129_50, zs_129_51, zs_129_52, zs_129_53, zs_129_56, zs_129_58, zs_129_60, zs_129_62, zs_129_65, zs_129_66, zs_129_67, zs_129_68, zs_129_71, zs_129_73, zs_129_76, zs_129_77, zs_129_80, zs_129_81, zTre_rc ht, d_182 ht, e0, zGc, zrc_10, zf_10_0, zp_10_0, zp_10_0n, zf_10_1, zp_10_1, zp_10_1n, zf_10_2, zp_10_2, zp_10_2n, zRow_rc hg.2.1, d_165 hg.2.1, zRow_rc hg.2.2.2.1, d_165 hg.2.2.2.1, d_184 ht hnd, d_185 ht hnd, d_186 ht hnd, d_187 ht hnd, zbk_v, zts_s, zts_n, d_83, h1, yb_t, nI_1e0, ↓reduceIte]
  | false =>
    by_cases h2 : nd.1 = nI 110
    · simp (disch := exact znw_u) only [zc_129, zs_129_0, zs_129_1, zs_129_4, zs_129_5, zs_129_6, zs_129_9, zs_129_12, zs_129_13, zs_129_14, zs_129_17, zs_129_18, zs_129_19, zs_129_22, zs_129_25, zs_129_27, zs_129_28, zs_129_29, zs_129_32, zs_129_35, zs_129_38, zs_129_39, zs_129_41, zs_129_42, zs_129_43, zs_129_46, zs_129_48, zs_129_50, zs_129_51, zs_129_52, zs_129_53, zs_129_56, zs_129_58, zs_129_60, zs_129_62, zs_129_65, zs_129_66, zs_129_67, zs_129_68, zs_129_71, zs_129_73, zs_129_76, zs_129_77, zs_129_80, zs_129_81, zTre_rc ht, d_182 ht, e0, zGc, zrc_10, zf_10_0, zp_10_0, zp_10_0n, zf_10_1, zp_10_1, zp_10_1n, zf_10_2, zp_10_2, zp_10_2n, zRow_rc hg.2.1, d_165 hg.2.1, zRow_rc hg.2.2.2.1, d_165 hg.2.2.2.1, d_184 ht hnd, d_185 ht hnd, d_186 ht hnd, d_187 ht hnd, zbk_v, zts_s, zts_n, d_83, h1, yb_f, if_pos h2, ↓reduceIte, Bool.false_eq_true]
    · simp (disch := exact znw_u) only [zc_129, zs_129_0, zs_129_1, zs_129_4, zs_129_5, zs_129_6, zs_129_9, zs_129_12, zs_129_13, zs_129_14, zs_129_17, zs_129_18, zs_129_19, zs_129_22, zs_129_25, zs_129_27, zs_129_28, zs_129_29, zs_129_32, zs_129_35, zs_129_38, zs_129_39, zs_129_41, zs_129_42, zs_129_43, zs_129_46, zs_129_48, zs_129_50, zs_129_51, zs_129_52, zs_129_53, zs_129_56, zs_129_58, zs_129_60, zs_129_62, zs_129_65, zs_129_66, zs_129_67, zs_129_68, zs_129_71, zs_129_73, zs_129_76, zs_129_77, zs_129_80, zs_129_81, zTre_rc ht, d_182 ht, e0, zGc, zrc_10, zf_10_0, zp_10_0, zp_10_0n, zf_10_1, zp_10_1, zp_10_1n, zf_10_2, zp_10_2, zp_10_2n, zRow_rc hg.2.1, d_165 hg.2.1, zRow_rc hg.2.2.2.1, d_165 hg.2.2.2.1, d_184 ht hnd, d_185 ht hnd, d_186 ht hnd, d_187 ht hnd, zbk_v, zts_s, zts_n, d_83, h1, yb_f, if_neg h2, ↓reduceIte, Bool.false_eq_true]
end ZDF
section ZDG
variable {sv : Nat → Value} {d : Nat} {t m g : Nat} {ns : List yN}
theorem d_117l {rt : Int32} (hw : ywf ns) (hd : g + 7 ≤ t ∨ t + 9 ≤ g) (hn : ns.length ≤ 124) : ∀ n i (h : zH) (A B C : List Int32), i + n = ns.length → zTre h t m ns → zGau h g A B C → yQ (yfN) ns A i → ∃ h' A', zrun zP sv (zcall zP sv (d + 3)) 117 2 [.val (.ref g), .val (.ref t), .val (.int rt), .val (.int (nI i))] [] h = some (.inl (some (.int (yg A' rt))), h') ∧ zGau h' g A' B C ∧ yQ (yfN) ns A' ns.length ∧ zfr g (g + 7) h h' := by
  intro n
  induction n with
  | zero =>
    intro i h A B C  hi ht hg hq
    obtain rfl : i = ns.length := by omega
    have f0 : ¬ nI ns.length < nI ns.length := nI_nlt (Nat.le_refl _) hw.1
    have e0 := hg.1
    refine ⟨h, A, ?_, hg, hq, zfr_rfl⟩
    simp only [zs_117_0, zs_117_1, zs_117_2, zs_117_3, zs_117_4, zs_117_7, zs_117_10, zs_117_11, zs_117_14, zs_117_15, zs_117_16, zs_117_17, zs_117_20, zs_117_21, zs_117_22, zs_117_25, zs_117_28, zs_117_29, zs_117_30, zs_117_33, zs_117_34, zs_117_35, zs_117_38, zs_117_41, zs_117_42, zs_117_45, zs_117_48, zs_117_51, zs_117_52, zs_117_55, zs_117_56, zs_117_59, zTre_rc ht, d_182 ht, d_183 ht, if_neg f0, e0, zGc, zrc_10, zf_10_0, zp_10_0, zp_10_0n, zf_10_1, zp_10_1, zp_10_1n, zf_10_2, zp_10_2, zp_10_2n, zRow_rc hg.2.1, d_165 hg.2.1, zbk_v, zts_s]
  | succ n ih =>
    intro i h A B C   hi ht hg hq
    obtain ⟨nd, hnd⟩ := ynd_ex (ns := ns) (i := i) (by omega)
    have hl := hw.1
    have f0 : nI i < nI ns.length := nI_lt (by omega) hl
    have e0 := hg.1
    have hA := hg.2.2.2.2.1
    have e1 := d_166 (sv := sv) (d := d + 2) (x := nI i) (y := (yfN nd.1 nd.2.1 (yg A nd.2.2.1) (yg A nd.2.2.2))) hg.2.1
    have g1 := zGau_1 (A' := ys A (nI i) (yfN nd.1 nd.2.1 (yg A nd.2.2.1) (yg A nd.2.2.2))) hg (by rw [ys_len, hA])
    have q1 := yQ_s hw hnd (by omega) hq
    have f1 : zfr g (g + 7) h (zup h (g + 1 + 1) (20, (ys A (nI i) (yfN nd.1 nd.2.1 (yg A nd.2.2.1) (yg A nd.2.2.2))).map Value.int)) := zfr_up (by omega) (by omega)
    rw [ys_k (by omega)] at e1 g1 f1
    obtain ⟨h', A', e2, w⟩ := ih (i + 1) _ _ _ _  (by omega) (zTre_fr ht f1 (by omega)) g1 q1
    refine ⟨h', A', ?_, w.1, w.2.1, zfr_tr f1 w.2.2⟩
    unfold yfN at e1
    simp (disch := assumption) only [zs_117_0, zs_117_1, zs_117_2, zs_117_3, zs_117_4, zs_117_7, zs_117_10, zs_117_11, zs_117_14, zs_117_15, zs_117_16, zs_117_17, zs_117_20, zs_117_21, zs_117_22, zs_117_25, zs_117_28, zs_117_29, zs_117_30, zs_117_33, zs_117_34, zs_117_35, zs_117_38, zs_117_41, zs_117_42, zs_117_45, zs_117_51, zs_117_52, zs_117_55, zs_117_56, zs_117_59, zTre_rc ht, d_182 ht, e0, zGc, zrc_10, zf_10_0, zp_10_0, zp_10_0n, zf_10_1, zp_10_1, zp_10_1n, zf_10_2, zp_10_2, zp_10_2n, zRow_rc hg.2.1, d_165 hg.2.1, zRow_rc hg.2.2.2.1, d_165 hg.2.2.2.1, d_184 ht hnd, d_185 ht hnd, d_186 ht hnd, d_187 ht hnd, zbk_v, zts_s, zts_n, zGau_rc hg, if_pos f0, e1]
    rw [zs_117_48, nI_1']
    exact e2
theorem d_118l {rt : Int32} (hw : ywf ns) (hd : g + 7 ≤ t ∨ t + 9 ≤ g) (hn : ns.length ≤ 124) : ∀ n i (h : zH) (A B C : List Int32) (s4 : Slot) (s5 : Slot), znw s4 = true → znw s5 = true → i + n = ns.length → zTre h t m ns → zGau h g A B C → yQ (yfL) ns A i → ∃ h' A', zrun zP sv (zcall zP sv (d + 3)) 118 2 [.val (.ref g), .val (.ref t), .val (.int rt), .val (.int (nI i)), s4, s5] [] h = some (.inl (some (.int (yg A' rt))), h') ∧ zGau h' g A' B C ∧ yQ (yfL) ns A' ns.length ∧ zfr g (g + 7) h h' := by
  intro n
  induction n with
  | zero =>
    intro i h A B C s4 s5 _ _ hi ht hg hq
    obtain rfl : i = ns.length := by omega
    have f0 : ¬ nI ns.length < nI ns.length := nI_nlt (Nat.le_refl _) hw.1
    have e0 := hg.1
    refine ⟨h, A, ?_, hg, hq, zfr_rfl⟩
    simp only [zs_118_0, zs_118_1, zs_118_2, zs_118_3, zs_118_4, zs_118_7, zs_118_10, zs_118_11, zs_118_14, zs_118_15, zs_118_16, zs_118_19, zs_118_22, zs_118_24, zs_118_25, zs_118_28, zs_118_29, zs_118_30, zs_118_33, zs_118_36, zs_118_38, zs_118_39, zs_118_42, zs_118_43, zs_118_44, zs_118_46, zs_118_48, zs_118_51, zs_118_52, zs_118_55, zs_118_58, zs_118_61, zs_118_62, zs_118_65, zs_118_66, zs_118_69, zTre_rc ht, d_182 ht, d_183 ht, if_neg f0, e0, zGc, zrc_10, zf_10_0, zp_10_0, zp_10_0n, zf_10_1, zp_10_1, zp_10_1n, zf_10_2, zp_10_2, zp_10_2n, zRow_rc hg.2.1, d_165 hg.2.1, zbk_v, zts_s]
  | succ n ih =>
    intro i h A B C s4 s5 hs0 hs1 hi ht hg hq
    obtain ⟨nd, hnd⟩ := ynd_ex (ns := ns) (i := i) (by omega)
    have hl := hw.1
    have f0 : nI i < nI ns.length := nI_lt (by omega) hl
    have e0 := hg.1
    have hA := hg.2.2.2.2.1
    have e1 := d_166 (sv := sv) (d := d + 2) (x := nI i) (y := (yfL nd.1 nd.2.1 (yg A nd.2.2.1) (yg A nd.2.2.2))) hg.2.1
    have g1 := zGau_1 (A' := ys A (nI i) (yfL nd.1 nd.2.1 (yg A nd.2.2.1) (yg A nd.2.2.2))) hg (by rw [ys_len, hA])
    have q1 := yQ_s hw hnd (by omega) hq
    have f1 : zfr g (g + 7) h (zup h (g + 1 + 1) (20, (ys A (nI i) (yfL nd.1 nd.2.1 (yg A nd.2.2.1) (yg A nd.2.2.2))).map Value.int)) := zfr_up (by omega) (by omega)
    rw [ys_k (by omega)] at e1 g1 f1
    obtain ⟨h', A', e2, w⟩ := ih (i + 1) _ _ _ _ (.val (.int (yg A nd.2.2.1))) (.val (.int (yg A nd.2.2.2))) rfl rfl (by omega) (zTre_fr ht f1 (by omega)) g1 q1
    refine ⟨h', A', ?_, w.1, w.2.1, zfr_tr f1 w.2.2⟩
    unfold yfL ymx at e1
    simp (disch := assumption) only [zs_118_0, zs_118_1, zs_118_2, zs_118_3, zs_118_4, zs_118_7, zs_118_10, zs_118_11, zs_118_14, zs_118_15, zs_118_16, zs_118_19, zs_118_22, zs_118_24, zs_118_25, zs_118_28, zs_118_29, zs_118_30, zs_118_33, zs_118_36, zs_118_38, zs_118_39, zs_118_42, zs_118_43, zs_118_44, zs_118_46, zs_118_48, zs_118_51, zs_118_52, zs_118_55, zs_118_61, zs_118_62, zs_118_65, zs_118_66, zs_118_69, zTre_rc ht, d_182 ht, e0, zGc, zrc_10, zf_10_0, zp_10_0, zp_10_0n, zf_10_1, zp_10_1, zp_10_1n, zf_10_2, zp_10_2, zp_10_2n, zRow_rc hg.2.1, d_165 hg.2.1, zRow_rc hg.2.2.2.1, d_165 hg.2.2.2.1, d_184 ht hnd, d_185 ht hnd, d_186 ht hnd, d_187 ht hnd, zbk_v, zts_s, zts_n, zGau_rc hg, if_pos f0, e1]
    rw [zs_118_58, nI_1']
    exact e2
theorem d_119l  (hw : ywf ns) (hd : g + 7 ≤ t ∨ t + 9 ≤ g) (hn : ns.length ≤ 124) : ∀ n i (h : zH) (A B C : List Int32), i + n = ns.length → zTre h t m ns → zGau h g A B C → yQ (yfP) ns A i → ∃ h' A', zrun zP sv (zcall zP sv (d + 3)) 119 2 [.val (.ref g), .val (.ref t), .val (.int (nI i))] [] h = some (.inl (some (.int (yg A' (nI ns.length - nI 1)))), h') ∧ zGau h' g A' B C ∧ yQ (yfP) ns A' ns.length ∧ zfr g (g + 7) h h' := by
  intro n
  induction n with
  | zero =>
    intro i h A B C  hi ht hg hq
    obtain rfl : i = ns.length := by omega
    have f0 : ¬ nI ns.length < nI ns.length := nI_nlt (Nat.le_refl _) hw.1
    have e0 := hg.1
    refine ⟨h, A, ?_, hg, hq, zfr_rfl⟩
    simp only [zs_119_0, zs_119_1, zs_119_2, zs_119_3, zs_119_4, zs_119_7, zs_119_10, zs_119_11, zs_119_14, zs_119_15, zs_119_16, zs_119_17, zs_119_18, zs_119_21, zs_119_24, zs_119_27, zs_119_30, zs_119_31, zs_119_34, zs_119_35, zs_119_38, zs_119_41, zTre_rc ht, d_182 ht, d_183 ht, if_neg f0, e0, zGc, zrc_10, zf_10_0, zp_10_0, zp_10_0n, zf_10_1, zp_10_1, zp_10_1n, zf_10_2, zp_10_2, zp_10_2n, zRow_rc hg.2.1, d_165 hg.2.1, zbk_v, zts_s]
  | succ n ih =>
    intro i h A B C   hi ht hg hq
    obtain ⟨nd, hnd⟩ := ynd_ex (ns := ns) (i := i) (by omega)
    have hl := hw.1
    have f0 : nI i < nI ns.length := nI_lt (by omega) hl
    have e0 := hg.1
    have hA := hg.2.2.2.2.1
    have e1 := d_166 (sv := sv) (d := d + 2) (x := nI i) (y := (yfP nd.1 nd.2.1 (yg A nd.2.2.1) (yg A nd.2.2.2))) hg.2.1
    have g1 := zGau_1 (A' := ys A (nI i) (yfP nd.1 nd.2.1 (yg A nd.2.2.1) (yg A nd.2.2.2))) hg (by rw [ys_len, hA])
    have q1 := yQ_s hw hnd (by omega) hq
    have f1 : zfr g (g + 7) h (zup h (g + 1 + 1) (20, (ys A (nI i) (yfP nd.1 nd.2.1 (yg A nd.2.2.1) (yg A nd.2.2.2))).map Value.int)) := zfr_up (by omega) (by omega)
    rw [ys_k (by omega)] at e1 g1 f1
    obtain ⟨h', A', e2, w⟩ := ih (i + 1) _ _ _ _  (by omega) (zTre_fr ht f1 (by omega)) g1 q1
    refine ⟨h', A', ?_, w.1, w.2.1, zfr_tr f1 w.2.2⟩
    skip
    simp (disch := assumption) only [zs_119_0, zs_119_1, zs_119_2, zs_119_3, zs_119_4, zs_119_7, zs_119_10, zs_119_11, zs_119_14, zs_119_15, zs_119_16, zs_119_17, zs_119_18, zs_119_21, zs_119_24, zs_119_30, zs_119_31, zs_119_34, zs_119_35, zs_119_38, zs_119_41, zTre_rc ht, d_182 ht, e0, zGc, zrc_10, zf_10_0, zp_10_0, zp_10_0n, zf_10_1, zp_10_1, zp_10_1n, zf_10_2, zp_10_2, zp_10_2n, zRow_rc hg.2.1, d_165 hg.2.1, zRow_rc hg.2.2.2.1, d_165 hg.2.2.2.1, d_184 ht hnd, d_185 ht hnd, d_186 ht hnd, d_187 ht hnd, zbk_v, zts_s, zts_n, zGau_rc hg, if_pos f0, d_120 ht hg hnd, e1]
    rw [zs_119_27, nI_1']
    exact e2
theorem d_121l {rt : Int32} {l : Nat} {T : List Int32} (hw : ywf ns) (hd : g + 7 ≤ t ∨ t + 9 ≤ g) (hn : ns.length ≤ 124) (hdl : g + 7 ≤ l ∨ l + 2 ≤ g) : ∀ n i (h : zH) (A B C : List Int32), i + n = ns.length → zTre h t m ns → zGau h g A B C → zRow h l T → yQ (yfR T) ns A i → ∃ h' A', zrun zP sv (zcall zP sv (d + 3)) 121 3 [.val (.ref g), .val (.ref t), .val (.int rt), .val (.ref l), .val (.int (nI i))] [] h = some (.inl (some (.int (yg A' rt))), h') ∧ zGau h' g A' B C ∧ yQ (yfR T) ns A' ns.length ∧ zfr g (g + 7) h h' := by
  intro n
  induction n with
  | zero =>
    intro i h A B C  hi ht hg hl2 hq
    obtain rfl : i = ns.length := by omega
    have f0 : ¬ nI ns.length < nI ns.length := nI_nlt (Nat.le_refl _) hw.1
    have e0 := hg.1
    refine ⟨h, A, ?_, hg, hq, zfr_rfl⟩
    simp only [zs_121_0, zs_121_1, zs_121_3, zs_121_5, zs_121_6, zs_121_9, zs_121_12, zs_121_13, zs_121_16, zs_121_18, zs_121_19, zs_121_20, zs_121_22, zs_121_23, zs_121_26, zs_121_29, zs_121_32, zs_121_35, zs_121_36, zs_121_39, zs_121_40, zs_121_43, zTre_rc ht, d_182 ht, d_183 ht, if_neg f0, e0, zGc, zrc_10, zf_10_0, zp_10_0, zp_10_0n, zf_10_1, zp_10_1, zp_10_1n, zf_10_2, zp_10_2, zp_10_2n, zRow_rc hg.2.1, d_165 hg.2.1, zbk_v, zts_s]
  | succ n ih =>
    intro i h A B C   hi ht hg hl2 hq
    obtain ⟨nd, hnd⟩ := ynd_ex (ns := ns) (i := i) (by omega)
    have hl := hw.1
    have f0 : nI i < nI ns.length := nI_lt (by omega) hl
    have e0 := hg.1
    have hA := hg.2.2.2.2.1
    have e1 := d_166 (sv := sv) (d := d + 2) (x := nI i) (y := (yfR T nd.1 nd.2.1 (yg A nd.2.2.1) (yg A nd.2.2.2))) hg.2.1
    have g1 := zGau_1 (A' := ys A (nI i) (yfR T nd.1 nd.2.1 (yg A nd.2.2.1) (yg A nd.2.2.2))) hg (by rw [ys_len, hA])
    have q1 := yQ_s hw hnd (by omega) hq
    have f1 : zfr g (g + 7) h (zup h (g + 1 + 1) (20, (ys A (nI i) (yfR T nd.1 nd.2.1 (yg A nd.2.2.1) (yg A nd.2.2.2))).map Value.int)) := zfr_up (by omega) (by omega)
    rw [ys_k (by omega)] at e1 g1 f1
    obtain ⟨h', A', e2, w⟩ := ih (i + 1) _ _ _ _  (by omega) (zTre_fr ht f1 (by omega)) g1 (zRow_fr hl2 f1 (by omega)) q1
    refine ⟨h', A', ?_, w.1, w.2.1, zfr_tr f1 w.2.2⟩
    skip
    simp (disch := assumption) only [zs_121_0, zs_121_1, zs_121_3, zs_121_5, zs_121_6, zs_121_9, zs_121_12, zs_121_13, zs_121_16, zs_121_18, zs_121_19, zs_121_20, zs_121_22, zs_121_23, zs_121_26, zs_121_29, zs_121_35, zs_121_36, zs_121_39, zs_121_40, zs_121_43, zTre_rc ht, d_182 ht, e0, zGc, zrc_10, zf_10_0, zp_10_0, zp_10_0n, zf_10_1, zp_10_1, zp_10_1n, zf_10_2, zp_10_2, zp_10_2n, zRow_rc hg.2.1, d_165 hg.2.1, zRow_rc hg.2.2.2.1, d_165 hg.2.2.2.1, d_184 ht hnd, d_185 ht hnd, d_186 ht hnd, d_187 ht hnd, zbk_v, zts_s, zts_n, zGau_rc hg, if_pos f0, d_122 ht hg hnd hl2, e1]
    rw [zs_121_32, nI_1']
    exact e2
theorem d_125l  (hw : ywf ns) (hd : g + 7 ≤ t ∨ t + 9 ≤ g) (hn : ns.length ≤ 124) : ∀ n i (h : zH) (A B C : List Int32), i + n = ns.length → zTre h t m ns → zGau h g A B C → yQ (yfD) ns C i → ∃ h' A', zrun zP sv (zcall zP sv (d + 3)) 125 2 [.val (.ref g), .val (.ref t), .val (.int (nI i))] [] h = some (.inl (some (.int (yg A' (nI ns.length - nI 1)))), h') ∧ zGau h' g A B A' ∧ yQ (yfD) ns A' ns.length ∧ zfr g (g + 7) h h' := by
  intro n
  induction n with
  | zero =>
    intro i h A B C  hi ht hg hq
    obtain rfl : i = ns.length := by omega
    have f0 : ¬ nI ns.length < nI ns.length := nI_nlt (Nat.le_refl _) hw.1
    have e0 := hg.1
    refine ⟨h, C, ?_, hg, hq, zfr_rfl⟩
    simp only [zs_125_0, zs_125_1, zs_125_2, zs_125_3, zs_125_4, zs_125_7, zs_125_10, zs_125_11, zs_125_14, zs_125_15, zs_125_16, zs_125_17, zs_125_18, zs_125_21, zs_125_24, zs_125_27, zs_125_30, zs_125_31, zs_125_34, zs_125_35, zs_125_38, zs_125_41, zTre_rc ht, d_182 ht, d_183 ht, if_neg f0, e0, zGc, zrc_10, zf_10_0, zp_10_0, zp_10_0n, zf_10_1, zp_10_1, zp_10_1n, zf_10_2, zp_10_2, zp_10_2n, zRow_rc hg.2.2.2.1, d_165 hg.2.2.2.1, zbk_v, zts_s]
  | succ n ih =>
    intro i h A B C   hi ht hg hq
    obtain ⟨nd, hnd⟩ := ynd_ex (ns := ns) (i := i) (by omega)
    have hl := hw.1
    have f0 : nI i < nI ns.length := nI_lt (by omega) hl
    have e0 := hg.1
    have hA := hg.2.2.2.2.2.2
    have e1 := d_166 (sv := sv) (d := d + 2) (x := nI i) (y := (yfD nd.1 nd.2.1 (yg C nd.2.2.1) (yg C nd.2.2.2))) hg.2.2.2.1
    have g1 := zGau_3 (A' := ys C (nI i) (yfD nd.1 nd.2.1 (yg C nd.2.2.1) (yg C nd.2.2.2))) hg (by rw [ys_len, hA])
    have q1 := yQ_s hw hnd (by omega) hq
    have f1 : zfr g (g + 7) h (zup h (g + 5 + 1) (20, (ys C (nI i) (yfD nd.1 nd.2.1 (yg C nd.2.2.1) (yg C nd.2.2.2))).map Value.int)) := zfr_up (by omega) (by omega)
    rw [ys_k (by omega)] at e1 g1 f1
    obtain ⟨h', A', e2, w⟩ := ih (i + 1) _ _ _ _  (by omega) (zTre_fr ht f1 (by omega)) g1 q1
    refine ⟨h', A', ?_, w.1, w.2.1, zfr_tr f1 w.2.2⟩
    skip
    simp (disch := assumption) only [zs_125_0, zs_125_1, zs_125_2, zs_125_3, zs_125_4, zs_125_7, zs_125_10, zs_125_11, zs_125_14, zs_125_15, zs_125_16, zs_125_17, zs_125_18, zs_125_21, zs_125_24, zs_125_30, zs_125_31, zs_125_34, zs_125_35, zs_125_38, zs_125_41, zTre_rc ht, d_182 ht, e0, zGc, zrc_10, zf_10_0, zp_10_0, zp_10_0n, zf_10_1, zp_10_1, zp_10_1n, zf_10_2, zp_10_2, zp_10_2n, zRow_rc hg.2.1, d_165 hg.2.1, zRow_rc hg.2.2.2.1, d_165 hg.2.2.2.1, d_184 ht hnd, d_185 ht hnd, d_186 ht hnd, d_187 ht hnd, zbk_v, zts_s, zts_n, zGau_rc hg, if_pos f0, d_127 ht hg hnd, e1]
    rw [zs_125_27, nI_1']
    exact e2
theorem d_128l  (hw : ywf ns) (hd : g + 7 ≤ t ∨ t + 9 ≤ g) (hn : ns.length ≤ 124) : ∀ n i (h : zH) (A B C : List Int32), i + n = ns.length → zTre h t m ns → zGau h g A B C → yQ (yfO) ns A i → ∃ h' A', zrun zP sv (zcall zP sv (d + 3)) 128 2 [.val (.ref g), .val (.ref t), .val (.int (nI i))] [] h = some (.inl (some (.int (yg A' (nI ns.length - nI 1)))), h') ∧ zGau h' g A' B C ∧ yQ (yfO) ns A' ns.length ∧ zfr g (g + 7) h h' := by
  intro n
  induction n with
  | zero =>
    intro i h A B C  hi ht hg hq
    obtain rfl : i = ns.length := by omega
    have f0 : ¬ nI ns.length < nI ns.length := nI_nlt (Nat.le_refl _) hw.1
    have e0 := hg.1
    refine ⟨h, A, ?_, hg, hq, zfr_rfl⟩
    simp only [zs_128_0, zs_128_1, zs_128_2, zs_128_3, zs_128_4, zs_128_7, zs_128_10, zs_128_11, zs_128_14, zs_128_15, zs_128_16, zs_128_17, zs_128_18, zs_128_21, zs_128_24, zs_128_27, zs_128_30, zs_128_31, zs_128_34, zs_128_35, zs_128_38, zs_128_41, zTre_rc ht, d_182 ht, d_183 ht, if_neg f0, e0, zGc, zrc_10, zf_10_0, zp_10_0, zp_10_0n, zf_10_1, zp_10_1, zp_10_1n, zf_10_2, zp_10_2, zp_10_2n, zRow_rc hg.2.1, d_165 hg.2.1, zbk_v, zts_s]
  | succ n ih =>
    intro i h A B C   hi ht hg hq
    obtain ⟨nd, hnd⟩ := ynd_ex (ns := ns) (i := i) (by omega)
    have hl := hw.1
    have f0 : nI i < nI ns.length := nI_lt (by omega) hl
    have e0 := hg.1
    have hA := hg.2.2.2.2.1
    have e1 := d_166 (sv := sv) (d := d + 2) (x := nI i) (y := (yfO nd.1 nd.2.1 (yg A nd.2.2.1) (yg A nd.2.2.2))) hg.2.1
    have g1 := zGau_1 (A' := ys A (nI i) (yfO nd.1 nd.2.1 (yg A nd.2.2.1) (yg A nd.2.2.2))) hg (by rw [ys_len, hA])
    have q1 := yQ_s hw hnd (by omega) hq
    have f1 : zfr g (g + 7) h (zup h (g + 1 + 1) (20, (ys A (nI i) (yfO nd.1 nd.2.1 (yg A nd.2.2.1) (yg A nd.2.2.2))).map Value.int)) := zfr_up (by omega) (by omega)
    rw [ys_k (by omega)] at e1 g1 f1
    obtain ⟨h', A', e2, w⟩ := ih (i + 1) _ _ _ _  (by omega) (zTre_fr ht f1 (by omega)) g1 q1
    refine ⟨h', A', ?_, w.1, w.2.1, zfr_tr f1 w.2.2⟩
    skip
    simp (disch := assumption) only [zs_128_0, zs_128_1, zs_128_2, zs_128_3, zs_128_4, zs_128_7, zs_128_10, zs_128_11, zs_128_14, zs_128_15, zs_128_16, zs_128_17, zs_128_18, zs_128_21, zs_128_24, zs_128_30, zs_128_31, zs_128_34, zs_128_35, zs_128_38, zs_128_41, zTre_rc ht, d_182 ht, e0, zGc, zrc_10, zf_10_0, zp_10_0, zp_10_0n, zf_10_1, zp_10_1, zp_10_1n, zf_10_2, zp_10_2, zp_10_2n, zRow_rc hg.2.1, d_165 hg.2.1, zRow_rc hg.2.2.2.1, d_165 hg.2.2.2.1, d_184 ht hnd, d_185 ht hnd, d_186 ht hnd, d_187 ht hnd, zbk_v, zts_s, zts_n, zGau_rc hg, if_pos f0, d_129 ht hg hnd, e1]
    rw [zs_128_27, nI_1']
    exact e2
theorem d_117 {h : zH} {A B C : List Int32} {rt : Int32} (hw : ywf ns) (hd : g + 7 ≤ t ∨ t + 9 ≤ g) (hn : ns.length ≤ 124) (ht : zTre h t m ns) (hg : zGau h g A B C) : ∃ h' A', zcall zP sv (d + 4) 117 [.ref g, .ref t, .int rt] h = some (.inl (some (.int (yg A' rt))), h') ∧ zGau h' g A' B C ∧ yQ (yfN) ns A' ns.length ∧ zfr g (g + 7) h h' := by
  obtain ⟨h', A', e, w⟩ := d_117l (sv := sv) (d := d) (rt := rt) hw hd hn ns.length 0 h A B C (Nat.zero_add _) ht hg yQ_0
  rw [nI_0] at e
  refine ⟨h', A', ?_, w⟩
  rw [zc_117, zs_117_0, zs_117_1 znw_u, e]
theorem d_118 {h : zH} {A B C : List Int32} {rt : Int32} (hw : ywf ns) (hd : g + 7 ≤ t ∨ t + 9 ≤ g) (hn : ns.length ≤ 124) (ht : zTre h t m ns) (hg : zGau h g A B C) : ∃ h' A', zcall zP sv (d + 4) 118 [.ref g, .ref t, .int rt] h = some (.inl (some (.int (yg A' rt))), h') ∧ zGau h' g A' B C ∧ yQ (yfL) ns A' ns.length ∧ zfr g (g + 7) h h' := by
  obtain ⟨h', A', e, w⟩ := d_118l (sv := sv) (d := d) (rt := rt) hw hd hn ns.length 0 h A B C .unset .unset rfl rfl (Nat.zero_add _) ht hg yQ_0
  rw [nI_0] at e
  refine ⟨h', A', ?_, w⟩
  rw [zc_118, zs_118_0, zs_118_1 znw_u, e]
theorem d_119 {h : zH} {A B C : List Int32}  (hw : ywf ns) (hd : g + 7 ≤ t ∨ t + 9 ≤ g) (hn : ns.length ≤ 124) (ht : zTre h t m ns) (hg : zGau h g A B C) : ∃ h' A', zcall zP sv (d + 4) 119 [.ref g, .ref t] h = some (.inl (some (.int (yg A' (nI ns.length - nI 1)))), h') ∧ zGau h' g A' B C ∧ yQ (yfP) ns A' ns.length ∧ zfr g (g + 7) h h' := by
  obtain ⟨h', A', e, w⟩ := d_119l (sv := sv) (d := d) hw hd hn ns.length 0 h A B C (Nat.zero_add _) ht hg yQ_0
  rw [nI_0] at e
  refine ⟨h', A', ?_, w⟩
  rw [zc_119, zs_119_0, zs_119_1 znw_u, e]
theorem d_121 {h : zH} {A B C : List Int32} {rt : Int32} {l : Nat} {T : List Int32} (hw : ywf ns) (hd : g + 7 ≤ t ∨ t + 9 ≤ g) (hn : ns.length ≤ 124) (hdl : g + 7 ≤ l ∨ l + 2 ≤ g) (ht : zTre h t m ns) (hg : zGau h g A B C) (hl2 : zRow h l T) : ∃ h' A', zcall zP sv (d + 4) 121 [.ref g, .ref t, .int rt, .ref l] h = some (.inl (some (.int (yg A' rt))), h') ∧ zGau h' g A' B C ∧ yQ (yfR T) ns A' ns.length ∧ zfr g (g + 7) h h' := by
  obtain ⟨h', A', e, w⟩ := d_121l (sv := sv) (d := d) (rt := rt) hw hd hn hdl ns.length 0 h A B C (Nat.zero_add _) ht hg hl2 yQ_0
  rw [nI_0] at e
  refine ⟨h', A', ?_, w⟩
  rw [zc_121, zs_121_0, zs_121_1 znw_u, e]
theorem d_125 {h : zH} {A B C : List Int32}  (hw : ywf ns) (hd : g + 7 ≤ t ∨ t + 9 ≤ g) (hn : ns.length ≤ 124) (ht : zTre h t m ns) (hg : zGau h g A B C) : ∃ h' A', zcall zP sv (d + 4) 125 [.ref g, .ref t] h = some (.inl (some (.int (yg A' (nI ns.length - nI 1)))), h') ∧ zGau h' g A B A' ∧ yQ (yfD) ns A' ns.length ∧ zfr g (g + 7) h h' := by
  obtain ⟨h', A', e, w⟩ := d_125l (sv := sv) (d := d) hw hd hn ns.length 0 h A B C (Nat.zero_add _) ht hg yQ_0
  rw [nI_0] at e
  refine ⟨h', A', ?_, w⟩
  rw [zc_125, zs_125_0, zs_125_1 znw_u, e]
theorem d_128 {h : zH} {A B C : List Int32}  (hw : ywf ns) (hd : g + 7 ≤ t ∨ t + 9 ≤ g) (hn : ns.length ≤ 124) (ht : zTre h t m ns) (hg : zGau h g A B C) : ∃ h' A', zcall zP sv (d + 4) 128 [.ref g, .ref t] h = some (.inl (some (.int (yg A' (nI ns.length - nI 1)))), h') ∧ zGau h' g A' B C ∧ yQ (yfO) ns A' ns.length ∧ zfr g (g + 7) h h' := by
  obtain ⟨h', A', e, w⟩ := d_128l (sv := sv) (d := d) hw hd hn ns.length 0 h A B C (Nat.zero_add _) ht hg yQ_0
  rw [nI_0] at e
  refine ⟨h', A', ?_, w⟩
  rw [zc_128, zs_128_0, zs_128_1 znw_u, e]
end ZDG

theorem ygt_at {ns : List yN} {j : Nat} {nd : yN} (hw : ywf ns) (hnd : ns[j]? = some nd) : ygt (ytm ns) (nI j) = ymk nd.1 nd.2.1 (ygt (ytm ns) nd.2.2.1) (ygt (ytm ns) nd.2.2.2) := by
  have hj := (List.getElem?_eq_some_iff.mp hnd).1
  have := hw.1
  rw [ygt_k (by omega), List.getD_eq_getElem?_getD, ytm_at hw hnd]
  rfl
theorem ych_lt {ns : List yN} {j : Nat} {nd : yN} (hw : ywf ns) (hnd : ns[j]? = some nd) : ych ns.length nd.2.2.1 ∧ ych ns.length nd.2.2.2 := by
  have hj := (List.getElem?_eq_some_iff.mp hnd).1
  exact ⟨ych_mono (hw.2 j nd hnd).1 (by omega), ych_mono (hw.2 j nd hnd).2 (by omega)⟩
theorem ysz_mk {k v : Int32} {l r : yT} : ysz (ymk k v l r) = ysz l + ysz r + 1 := rfl
theorem ydp_mk {k v : Int32} {l r : yT} : ydp (ymk k v l r) = max (ydp l) (ydp r) + 1 := rfl
theorem ypo_mk {k v : Int32} {l r : yT} {o : Nat} : ypo o (ymk k v l r) = ypo o l ++ ypo (o + ysz l) r ++ [(k, v, yri o l, yri (o + ysz l) r)] := rfl
theorem yri_mk {k v : Int32} {l r : yT} {o : Nat} : yri o (ymk k v l r) = nI (o + ysz l + ysz r) := rfl
theorem nI_nm1 {j : Nat} (hj : j < 2 ^ 31) : ¬ nI j = -1 := by
  intro h
  have := congrArg Int32.toInt h
  rw [nI_toInt hj] at this
  have e : (-1 : Int32).toInt = -1 := by decide +kernel
  omega
theorem nI_m1e : ((-1 : Int32) = -1) = True := by decide +kernel
section ZDH
variable {sv : Nat → Value}
theorem d_86 {f o m mo : Nat} {ns : List yN} (hw : ywf ns) (hd : f + 9 ≤ o ∨ o + 9 ≤ f) : ∀ (t : yT) (x : Int32) (D ℓ : Nat) (h : zH) (os : List yN), ych ns.length x → ygt (ytm ns) x = t → ydp t + 3 ≤ D → ℓ + ydp t ≤ 41 → os.length + ysz t ≤ mo → zTre h f m ns → zTre h o mo os → ∃ h', zcall zP sv D 86 [.ref f, .int x, .ref o, .int (nI ℓ)] h = some (.inl (some (.int (yri os.length t))), h') ∧ zTre h' o mo (os ++ ypo os.length t) ∧ zfr o (o + 9) h h' := by
  have main : ∀ (n : Nat) (t : yT), ydp t ≤ n → ∀ (x : Int32) (D ℓ : Nat) (h : zH) (os : List yN), ych ns.length x → ygt (ytm ns) x = t → ydp t + 3 ≤ D → ℓ + ydp t ≤ 41 → os.length + ysz t ≤ mo → zTre h f m ns → zTre h o mo os → ∃ h', zcall zP sv D 86 [.ref f, .int x, .ref o, .int (nI ℓ)] h = some (.inl (some (.int (yri os.length t))), h') ∧ zTre h' o mo (os ++ ypo os.length t) ∧ zfr o (o + 9) h h' := by
    intro n
    induction n with
    | zero =>
      intro t hn x D ℓ h os hx ht hD hL hs hf ho
      obtain ⟨d, rfl⟩ : ∃ d, D = d + 1 := ⟨D - 1, by omega⟩
      rcases hx with rfl | ⟨j, hj, rfl⟩
      · rw [ygt_n] at ht
        subst ht
        refine ⟨h, ?_, by rw [show ypo os.length (.leaf : yT) = [] from rfl, List.append_nil]; exact ho, zfr_rfl⟩
        simp only [zc_86, zs_86_0, zs_86_1, zs_86_2, zs_86_5, zs_86_6, zs_86_8, zs_86_11, zs_86_12, zs_86_13, zs_86_14, zs_86_15, zs_86_16, zs_86_19, zs_86_20, zs_86_21, zs_86_22, zs_86_23, zs_86_26, zs_86_28, zs_86_29, zs_86_30, zs_86_31, zs_86_34, zs_86_35, zs_86_36, zs_86_37, zs_86_38, zs_86_41, zs_86_43, zs_86_44, zs_86_45, zs_86_46, zs_86_49, zs_86_50, zs_86_51, zs_86_54, zs_86_56, zs_86_58, zs_86_61, nI_m1e, ↓reduceIte]
        rfl
      · obtain ⟨nd, hnd⟩ := ynd_ex hj
        rw [ygt_at hw hnd] at ht
        subst ht
        rw [ydp_mk] at hn
        omega
    | succ n ih =>
      intro t hn x D ℓ h os hx ht hD hL hs hf ho
      obtain ⟨d, rfl⟩ : ∃ d, D = d + 3 := ⟨D - 3, by omega⟩
      rcases hx with rfl | ⟨j, hj, rfl⟩
      · rw [ygt_n] at ht
        subst ht
        refine ⟨h, ?_, by rw [show ypo os.length (.leaf : yT) = [] from rfl, List.append_nil]; exact ho, zfr_rfl⟩
        simp only [zc_86, zs_86_0, zs_86_1, zs_86_2, zs_86_5, zs_86_6, zs_86_8, zs_86_11, zs_86_12, zs_86_13, zs_86_14, zs_86_15, zs_86_16, zs_86_19, zs_86_20, zs_86_21, zs_86_22, zs_86_23, zs_86_26, zs_86_28, zs_86_29, zs_86_30, zs_86_31, zs_86_34, zs_86_35, zs_86_36, zs_86_37, zs_86_38, zs_86_41, zs_86_43, zs_86_44, zs_86_45, zs_86_46, zs_86_49, zs_86_50, zs_86_51, zs_86_54, zs_86_56, zs_86_58, zs_86_61, nI_m1e, ↓reduceIte]
        rfl
      · obtain ⟨nd, hnd⟩ := ynd_ex hj
        have hc := ych_lt hw hnd
        have hl := hw.1
        rw [ygt_at hw hnd] at ht
        subst ht
        rw [ydp_mk] at hn hD hL
        rw [ysz_mk] at hs
        have m1 := Nat.le_max_left (ydp (ygt (ytm ns) nd.2.2.1)) (ydp (ygt (ytm ns) nd.2.2.2))
        have m2 := Nat.le_max_right (ydp (ygt (ytm ns) nd.2.2.1)) (ydp (ygt (ytm ns) nd.2.2.2))
        obtain ⟨h1, e1, w1, f1⟩ := ih (ygt (ytm ns) nd.2.2.1) (by omega) nd.2.2.1 (d + 2) (ℓ + 1) h os hc.1 rfl (by omega) (by omega) (by omega) hf ho
        have hlen : (os ++ ypo os.length (ygt (ytm ns) nd.2.2.1)).length = os.length + ysz (ygt (ytm ns) nd.2.2.1) := by rw [List.length_append, ypo_len]
        obtain ⟨h2, e2, w2, f2⟩ := ih (ygt (ytm ns) nd.2.2.2) (by omega) nd.2.2.2 (d + 2) (ℓ + 1) h1 _ hc.2 rfl (by omega) (by omega) (by rw [hlen]; omega) (zTre_fr hf f1 (by omega)) w1
        rw [hlen] at e2 w2
        have hlen2 : (os ++ ypo os.length (ygt (ytm ns) nd.2.2.1) ++ ypo (os.length + ysz (ygt (ytm ns) nd.2.2.1)) (ygt (ytm ns) nd.2.2.2)).length = os.length + ysz (ygt (ytm ns) nd.2.2.1) + ysz (ygt (ytm ns) nd.2.2.2) := by rw [List.length_append, hlen, ypo_len]
        have hf2 := zTre_fr (zTre_fr hf f1 (by omega)) f2 (by omega)
        obtain ⟨h3, e3, w3, f3⟩ := d_191 (sv := sv) (d := d) (k := nd.1) (n := nd.2.1) (l := yri os.length (ygt (ytm ns) nd.2.2.1)) (r := yri (os.length + ysz (ygt (ytm ns) nd.2.2.1)) (ygt (ytm ns) nd.2.2.2)) w2 (by rw [hlen2]; omega)
        rw [hlen2] at e3
        refine ⟨h3, ?_, ?_, zfr_tr (zfr_tr f1 f2) f3⟩
        · have g1 : ¬ nI j = -1 := nI_nm1 (by omega)
          have g2 : ¬ nI 40 < nI ℓ := nI_nlt (by omega) (by omega)
          simp (disch := exact znw_u) only [zc_86, zs_86_0, zs_86_1, zs_86_2, zs_86_5, zs_86_6, zs_86_8, zs_86_11, zs_86_12, zs_86_13, zs_86_14, zs_86_15, zs_86_16, zs_86_19, zs_86_20, zs_86_21, zs_86_22, zs_86_23, zs_86_26, zs_86_28, zs_86_29, zs_86_30, zs_86_31, zs_86_34, zs_86_35, zs_86_36, zs_86_37, zs_86_38, zs_86_41, zs_86_43, zs_86_44, zs_86_45, zs_86_46, zs_86_49, zs_86_50, zs_86_51, zs_86_54, zs_86_56, zs_86_58, zs_86_61, if_neg g1, if_neg g2, zTre_rc hf, zTre_rc hf2, d_186 hf hnd, nI_1', e1, zTre_rc (zTre_fr hf f1 (by omega)), d_187 (zTre_fr hf f1 (by omega)) hnd, e2, d_184 hf2 hnd, d_185 hf2 hnd, zTre_rc w2, e3, zbk_v, zts_s]
          rw [yri_mk]
        · rw [ypo_mk, ← List.append_assoc, ← List.append_assoc]
          exact w3
  exact fun t => main (ydp t) t (Nat.le_refl _)
end ZDH

theorem nI_ltn {a b : Nat} (ha : a < 2 ^ 31) (hb : b < 2 ^ 31) : ymx (nI a) (nI b) = nI (max a b) := by
  unfold ymx
  by_cases h : a < b
  · rw [if_pos (nI_lt h hb), Nat.max_eq_right (by omega)]
  · rw [if_neg (nI_nlt (by omega) ha), Nat.max_eq_left (by omega)]
theorem yfo_N : ∀ t : yT, yfo yfN t = nI (ysz t)
  | .leaf => rfl
  | .inner _ k v l r => by
    show nI 1 + yfo yfN l + yfo yfN r = nI (ysz l + ysz r + 1)
    rw [yfo_N l, yfo_N r, nI_add, nI_add]
    congr 1
    omega
theorem yfo_L : ∀ t : yT, ydp t < 2 ^ 31 → yfo yfL t = nI (ydp t)
  | .leaf, _ => rfl
  | .inner _ k v l r, h => by
    have h' : max (ydp l) (ydp r) + 1 < 2 ^ 31 := h
    have m1 := Nat.le_max_left (ydp l) (ydp r)
    have m2 := Nat.le_max_right (ydp l) (ydp r)
    show nI 1 + ymx (yfo yfL l) (yfo yfL r) = nI (max (ydp l) (ydp r) + 1)
    rw [yfo_L l (by omega), yfo_L r (by omega), nI_ltn (by omega) (by omega), nI_add]
    congr 1
    omega
theorem ydp_sz : ∀ t : yT, ydp t ≤ ysz t
  | .leaf => Nat.le_refl _
  | .inner _ k v l r => by
    show max (ydp l) (ydp r) + 1 ≤ ysz l + ysz r + 1
    have := ydp_sz l
    have := ydp_sz r
    omega
/-- equal terms -/
def yeq : yT → yT → Bool
  | .leaf, .leaf => true
  | .inner _ k v l r, .inner _ k' v' l' r' => decide (k = k') && decide (v = v') && yeq l l' && yeq r r'
  | _, _ => false
theorem yeq_mk {k v k' v' : Int32} {l r l' r' : yT} : yeq (ymk k v l r) (ymk k' v' l' r') = (decide (k = k') && decide (v = v') && yeq l l' && yeq r r') := rfl
section ZDI
variable {sv : Nat → Value}
theorem yb_ne {b : Bool} : (yb b = 0) = (b = false) := by
  cases b
  · simp [yb_f]
  · rw [yb_t, nI_1e0]; simp
theorem d_85 {f o m mo : Nat} {h : zH} {ns os : List yN} (hw : ywf ns) (hwo : ywf os) (hf : zTre h f m ns) (ho : zTre h o mo os) : ∀ (t u : yT) (x y : Int32) (D ℓ : Nat), ych ns.length x → ych os.length y → ygt (ytm ns) x = t → ygt (ytm os) y = u → ydp t + 3 ≤ D → ℓ + ydp t ≤ 41 → zcall zP sv D 85 [.ref f, .int x, .ref o, .int y, .int (nI ℓ)] h = some (.inl (some (.int (yb (yeq t u)))), h) := by
  have main : ∀ (n : Nat) (t u : yT), ydp t ≤ n → ∀ (x y : Int32) (D ℓ : Nat), ych ns.length x → ych os.length y → ygt (ytm ns) x = t → ygt (ytm os) y = u → ydp t + 3 ≤ D → ℓ + ydp t ≤ 41 → zcall zP sv D 85 [.ref f, .int x, .ref o, .int y, .int (nI ℓ)] h = some (.inl (some (.int (yb (yeq t u)))), h) := by
    have hl := hw.1
    have hlo := hwo.1
    intro n
    induction n with
    | zero =>
      intro t u hn x y D ℓ hx hy ht hu hD hL
      obtain ⟨d, rfl⟩ : ∃ d, D = d + 1 := ⟨D - 1, by omega⟩
      rcases hx with rfl | ⟨j, hj, rfl⟩
      · rw [ygt_n] at ht
        subst ht
        rcases hy with rfl | ⟨i, hi, rfl⟩
        · rw [ygt_n] at hu
          subst hu
          simp only [zc_85, zs_85_0, zs_85_1, zs_85_2, zs_85_5, zs_85_6, zs_85_7, zs_85_10, zs_85_12, zs_85_14, zs_85_17, zs_85_18, zs_85_19, zs_85_22, zs_85_23, zs_85_24, zs_85_27, zs_85_28, zs_85_31, zs_85_32, zs_85_33, zs_85_34, zs_85_35, zs_85_38, zs_85_39, zs_85_40, zs_85_43, zs_85_46, zs_85_47, zs_85_48, zs_85_51, zs_85_52, zs_85_53, zs_85_56, zs_85_59, zs_85_60, zs_85_61, zs_85_62, zs_85_65, zs_85_66, zs_85_67, zs_85_68, zs_85_71, zs_85_73, zs_85_74, zs_85_75, zs_85_78, zs_85_81, zs_85_82, zs_85_83, zs_85_84, zs_85_87, zs_85_88, zs_85_89, zs_85_90, zs_85_93, zs_85_95, zs_85_96, zs_85_97, zs_85_100, zs_85_103, zs_85_104, zs_85_107, zs_85_108, nI_m1e, ↓reduceIte, zty_51, zgd_t]
          rfl
        · obtain ⟨nd, hnd⟩ := ynd_ex hi
          rw [ygt_at hwo hnd] at hu
          subst hu
          have g1 : ¬ nI i = -1 := nI_nm1 (by omega)
          simp only [zc_85, zs_85_0, zs_85_1, zs_85_2, zs_85_5, zs_85_6, zs_85_7, zs_85_10, zs_85_12, zs_85_14, zs_85_17, zs_85_18, zs_85_19, zs_85_22, zs_85_23, zs_85_24, zs_85_27, zs_85_28, zs_85_31, zs_85_32, zs_85_33, zs_85_34, zs_85_35, zs_85_38, zs_85_39, zs_85_40, zs_85_43, zs_85_46, zs_85_47, zs_85_48, zs_85_51, zs_85_52, zs_85_53, zs_85_56, zs_85_59, zs_85_60, zs_85_61, zs_85_62, zs_85_65, zs_85_66, zs_85_67, zs_85_68, zs_85_71, zs_85_73, zs_85_74, zs_85_75, zs_85_78, zs_85_81, zs_85_82, zs_85_83, zs_85_84, zs_85_87, zs_85_88, zs_85_89, zs_85_90, zs_85_93, zs_85_95, zs_85_96, zs_85_97, zs_85_100, zs_85_103, zs_85_104, zs_85_107, zs_85_108, nI_m1e, if_neg g1, ↓reduceIte, zty_50, zgd_t]
          rfl
      · obtain ⟨nd, hnd⟩ := ynd_ex hj
        rw [ygt_at hw hnd] at ht
        subst ht
        rw [ydp_mk] at hn
        omega
    | succ n ih =>
      intro t u hn x y D ℓ hx hy ht hu hD hL
      obtain ⟨d, rfl⟩ : ∃ d, D = d + 3 := ⟨D - 3, by omega⟩
      rcases hx with rfl | ⟨j, hj, rfl⟩
      · rw [ygt_n] at ht
        subst ht
        rcases hy with rfl | ⟨i, hi, rfl⟩
        · rw [ygt_n] at hu
          subst hu
          simp only [zc_85, zs_85_0, zs_85_1, zs_85_2, zs_85_5, zs_85_6, zs_85_7, zs_85_10, zs_85_12, zs_85_14, zs_85_17, zs_85_18, zs_85_19, zs_85_22, zs_85_23, zs_85_24, zs_85_27, zs_85_28, zs_85_31, zs_85_32, zs_85_33, zs_85_34, zs_85_35, zs_85_38, zs_85_39, zs_85_40, zs_85_43, zs_85_46, zs_85_47, zs_85_48, zs_85_51, zs_85_52, zs_85_53, zs_85_56, zs_85_59, zs_85_60, zs_85_61, zs_85_62, zs_85_65, zs_85_66, zs_85_67, zs_85_68, zs_85_71, zs_85_73, zs_85_74, zs_85_75, zs_85_78, zs_85_81, zs_85_82, zs_85_83, zs_85_84, zs_85_87, zs_85_88, zs_85_89, zs_85_90, zs_85_93, zs_85_95, zs_85_96, zs_85_97, zs_85_100, zs_85_103, zs_85_104, zs_85_107, zs_85_108, nI_m1e, ↓reduceIte, zty_51, zgd_t]
          rfl
        · obtain ⟨nd, hnd⟩ := ynd_ex hi
          rw [ygt_at hwo hnd] at hu
          subst hu
          have g1 : ¬ nI i = -1 := nI_nm1 (by omega)
          simp only [zc_85, zs_85_0, zs_85_1, zs_85_2, zs_85_5, zs_85_6, zs_85_7, zs_85_10, zs_85_12, zs_85_14, zs_85_17, zs_85_18, zs_85_19, zs_85_22, zs_85_23, zs_85_24, zs_85_27, zs_85_28, zs_85_31, zs_85_32, zs_85_33, zs_85_34, zs_85_35, zs_85_38, zs_85_39, zs_85_40, zs_85_43, zs_85_46, zs_85_47, zs_85_48, zs_85_51, zs_85_52, zs_85_53, zs_85_56, zs_85_59, zs_85_60, zs_85_61, zs_85_62, zs_85_65, zs_85_66, zs_85_67, zs_85_68, zs_85_71, zs_85_73, zs_85_74, zs_85_75, zs_85_78, zs_85_81, zs_85_82, zs_85_83, zs_85_84, zs_85_87, zs_85_88, zs_85_89, zs_85_90, zs_85_93, zs_85_95, zs_85_96, zs_85_97, zs_85_100, zs_85_103, zs_85_104, zs_85_107, zs_85_108, nI_m1e, if_neg g1, ↓reduceIte, zty_50, zgd_t]
          rfl
      · obtain ⟨nd, hnd⟩ := ynd_ex hj
        rw [ygt_at hw hnd] at ht
        subst ht
        rw [ydp_mk] at hn hD hL
        have g1 : ¬ nI j = -1 := nI_nm1 (by omega)
        rcases hy with rfl | ⟨i, hi, rfl⟩
        · rw [ygt_n] at hu
          subst hu
          simp only [zc_85, zs_85_0, zs_85_1, zs_85_2, zs_85_5, zs_85_6, zs_85_7, zs_85_10, zs_85_12, zs_85_14, zs_85_17, zs_85_18, zs_85_19, zs_85_22, zs_85_23, zs_85_24, zs_85_27, zs_85_28, zs_85_31, zs_85_32, zs_85_33, zs_85_34, zs_85_35, zs_85_38, zs_85_39, zs_85_40, zs_85_43, zs_85_46, zs_85_47, zs_85_48, zs_85_51, zs_85_52, zs_85_53, zs_85_56, zs_85_59, zs_85_60, zs_85_61, zs_85_62, zs_85_65, zs_85_66, zs_85_67, zs_85_68, zs_85_71, zs_85_73, zs_85_74, zs_85_75, zs_85_78, zs_85_81, zs_85_82, zs_85_83, zs_85_84, zs_85_87, zs_85_88, zs_85_89, zs_85_90, zs_85_93, zs_85_95, zs_85_96, zs_85_97, zs_85_100, zs_85_103, zs_85_104, zs_85_107, zs_85_108, nI_m1e, if_neg g1, ↓reduceIte, zty_50, zgd_t]
          rfl
        · obtain ⟨ne, hne⟩ := ynd_ex hi
          rw [ygt_at hwo hne] at hu
          subst hu
          have g2 : ¬ nI i = -1 := nI_nm1 (by omega)
          have g3 : ¬ nI 40 < nI ℓ := nI_nlt (by omega) (by omega)
          have hc := ych_lt hw hnd
          have hc2 := ych_lt hwo hne
          have m1 := Nat.le_max_left (ydp (ygt (ytm ns) nd.2.2.1)) (ydp (ygt (ytm ns) nd.2.2.2))
          have m2 := Nat.le_max_right (ydp (ygt (ytm ns) nd.2.2.1)) (ydp (ygt (ytm ns) nd.2.2.2))
          have e1 := ih (ygt (ytm ns) nd.2.2.1) (ygt (ytm os) ne.2.2.1) (by omega) nd.2.2.1 ne.2.2.1 (d + 2) (ℓ + 1) hc.1 hc2.1 rfl rfl (by omega) (by omega)
          have e2 := ih (ygt (ytm ns) nd.2.2.2) (ygt (ytm os) ne.2.2.2) (by omega) nd.2.2.2 ne.2.2.2 (d + 2) (ℓ + 1) hc.2 hc2.2 rfl rfl (by omega) (by omega)
          rw [yeq_mk]
          by_cases a1 : nd.1 = ne.1
          · by_cases a2 : nd.2.1 = ne.2.1
            · rw [decide_eq_true a1, decide_eq_true a2]
              cases a3 : yeq (ygt (ytm ns) nd.2.2.1) (ygt (ytm os) ne.2.2.1) with
              | false =>
                rw [a3] at e1
                simp only [zc_85, zs_85_0, zs_85_1, zs_85_2, zs_85_5, zs_85_6, zs_85_7, zs_85_10, zs_85_12, zs_85_14, zs_85_17, zs_85_18, zs_85_19, zs_85_22, zs_85_23, zs_85_24, zs_85_27, zs_85_28, zs_85_31, zs_85_32, zs_85_33, zs_85_34, zs_85_35, zs_85_38, zs_85_39, zs_85_40, zs_85_43, zs_85_46, zs_85_47, zs_85_48, zs_85_51, zs_85_52, zs_85_53, zs_85_56, zs_85_59, zs_85_60, zs_85_61, zs_85_62, zs_85_65, zs_85_66, zs_85_67, zs_85_68, zs_85_71, zs_85_73, zs_85_74, zs_85_75, zs_85_78, zs_85_81, zs_85_82, zs_85_83, zs_85_84, zs_85_87, zs_85_88, zs_85_89, zs_85_90, zs_85_93, zs_85_95, zs_85_96, zs_85_97, zs_85_100, zs_85_103, zs_85_104, zs_85_107, zs_85_108, if_neg g1, if_neg g2, if_neg g3, zTre_rc hf, zTre_rc ho, d_184 hf hnd, d_184 ho hne, d_185 hf hnd, d_185 ho hne, d_186 hf hnd, d_186 ho hne, d_187 hf hnd, d_187 ho hne, if_pos a1, if_pos a2, nI_1', e1, yb_f, zbk_v, zts_s, zgd_t, zty_50, ↓reduceIte]
                rfl
              | true =>
                rw [a3] at e1
                cases a4 : yeq (ygt (ytm ns) nd.2.2.2) (ygt (ytm os) ne.2.2.2) with
                | false =>
                  rw [a4] at e2
                  simp only [zc_85, zs_85_0, zs_85_1, zs_85_2, zs_85_5, zs_85_6, zs_85_7, zs_85_10, zs_85_12, zs_85_14, zs_85_17, zs_85_18, zs_85_19, zs_85_22, zs_85_23, zs_85_24, zs_85_27, zs_85_28, zs_85_31, zs_85_32, zs_85_33, zs_85_34, zs_85_35, zs_85_38, zs_85_39, zs_85_40, zs_85_43, zs_85_46, zs_85_47, zs_85_48, zs_85_51, zs_85_52, zs_85_53, zs_85_56, zs_85_59, zs_85_60, zs_85_61, zs_85_62, zs_85_65, zs_85_66, zs_85_67, zs_85_68, zs_85_71, zs_85_73, zs_85_74, zs_85_75, zs_85_78, zs_85_81, zs_85_82, zs_85_83, zs_85_84, zs_85_87, zs_85_88, zs_85_89, zs_85_90, zs_85_93, zs_85_95, zs_85_96, zs_85_97, zs_85_100, zs_85_103, zs_85_104, zs_85_107, zs_85_108, if_neg g1, if_neg g2, if_neg g3, zTre_rc hf, zTre_rc ho, d_184 hf hnd, d_184 ho hne, d_185 hf hnd, d_185 ho hne, d_186 hf hnd, d_186 ho hne, d_187 hf hnd, d_187 ho hne, if_pos a1, if_pos a2, nI_1', e1, e2, yb_f, yb_t, nI_1e0, zbk_v, zts_s, zgd_t, zty_50, ↓reduceIte]
                  rfl
                | true =>
                  rw [a4] at e2
                  simp only [zc_85, zs_85_0, zs_85_1, zs_85_2, zs_85_5, zs_85_6, zs_85_7, zs_85_10, zs_85_12, zs_85_14, zs_85_17, zs_85_18, zs_85_19, zs_85_22, zs_85_23, zs_85_24, zs_85_27, zs_85_28, zs_85_31, zs_85_32, zs_85_33, zs_85_34, zs_85_35, zs_85_38, zs_85_39, zs_85_40, zs_85_43, zs_85_46, zs_85_47, zs_85_48, zs_85_51, zs_85_52, zs_85_53, zs_85_56, zs_85_59, zs_85_60, zs_85_61, zs_85_62, zs_85_65, zs_85_66, zs_85_67, zs_85_68, zs_85_71, zs_85_73, zs_85_74, zs_85_75, zs_85_78, zs_85_81, zs_85_82, zs_85_83, zs_85_84, zs_85_87, zs_85_88, zs_85_89, zs_85_90, zs_85_93, zs_85_95, zs_85_96, zs_85_97, zs_85_100, zs_85_103, zs_85_104, zs_85_107, zs_85_108, if_neg g1, if_neg g2, if_neg g3, zTre_rc hf, zTre_rc ho, d_184 hf hnd, d_184 ho hne, d_185 hf hnd, d_185 ho hne, d_186 hf hnd, d_186 ho hne, d_187 hf hnd, d_187 ho hne, if_pos a1, if_pos a2, nI_1', e1, e2, yb_t, nI_1e0, zbk_v, zts_s, zgd_t, zty_51, ↓reduceIte]
                  rfl
            · rw [decide_eq_false a2]
              simp only [zc_85, zs_85_0, zs_85_1, zs_85_2, zs_85_5, zs_85_6, zs_85_7, zs_85_10, zs_85_12, zs_85_14, zs_85_17, zs_85_18, zs_85_19, zs_85_22, zs_85_23, zs_85_24, zs_85_27, zs_85_28, zs_85_31, zs_85_32, zs_85_33, zs_85_34, zs_85_35, zs_85_38, zs_85_39, zs_85_40, zs_85_43, zs_85_46, zs_85_47, zs_85_48, zs_85_51, zs_85_52, zs_85_53, zs_85_56, zs_85_59, zs_85_60, zs_85_61, zs_85_62, zs_85_65, zs_85_66, zs_85_67, zs_85_68, zs_85_71, zs_85_73, zs_85_74, zs_85_75, zs_85_78, zs_85_81, zs_85_82, zs_85_83, zs_85_84, zs_85_87, zs_85_88, zs_85_89, zs_85_90, zs_85_93, zs_85_95, zs_85_96, zs_85_97, zs_85_100, zs_85_103, zs_85_104, zs_85_107, zs_85_108, if_neg g1, if_neg g2, if_neg g3, zTre_rc hf, zTre_rc ho, d_184 hf hnd, d_184 ho hne, d_185 hf hnd, d_185 ho hne, if_pos a1, if_neg a2, zbk_v, zts_s, zgd_t, zty_50, ↓reduceIte, Bool.and_false, Bool.false_and, yb_f]
          · rw [decide_eq_false a1]
            simp only [zc_85, zs_85_0, zs_85_1, zs_85_2, zs_85_5, zs_85_6, zs_85_7, zs_85_10, zs_85_12, zs_85_14, zs_85_17, zs_85_18, zs_85_19, zs_85_22, zs_85_23, zs_85_24, zs_85_27, zs_85_28, zs_85_31, zs_85_32, zs_85_33, zs_85_34, zs_85_35, zs_85_38, zs_85_39, zs_85_40, zs_85_43, zs_85_46, zs_85_47, zs_85_48, zs_85_51, zs_85_52, zs_85_53, zs_85_56, zs_85_59, zs_85_60, zs_85_61, zs_85_62, zs_85_65, zs_85_66, zs_85_67, zs_85_68, zs_85_71, zs_85_73, zs_85_74, zs_85_75, zs_85_78, zs_85_81, zs_85_82, zs_85_83, zs_85_84, zs_85_87, zs_85_88, zs_85_89, zs_85_90, zs_85_93, zs_85_95, zs_85_96, zs_85_97, zs_85_100, zs_85_103, zs_85_104, zs_85_107, zs_85_108, if_neg g1, if_neg g2, if_neg g3, zTre_rc hf, zTre_rc ho, d_184 hf hnd, d_184 ho hne, if_neg a1, zbk_v, zts_s, zgd_t, zty_50, ↓reduceIte, Bool.false_and, yb_f]
  exact fun t u => main (ydp t) t u (Nat.le_refl _)
end ZDI

theorem zaln_l {kd : Nat} {vs : List Value} {K : Int32 → zR} (hk : 20 ≤ kd) : zaln (kd, vs) K = K (nI vs.length) := zaln_k hk
/-- a State at s: its formulas' addresses, letters, machine, removed -/
def ygv (as : List Nat) (j : Nat) : Value := match as[j]? with
  | some a => .ref a
  | none => .null
abbrev yS : Type := List Nat × List Int32 × Int32 × Int32
def zSta (h : zH) (s : Nat) (S : yS) : Prop := h.1 s = (3, [.ref (s + 1), .int (nI S.1.length), .ref (s + 2), .int S.2.2.1, .int S.2.2.2]) ∧ (∃ F, h.1 (s + 1) = (25, F) ∧ F.length = 6 ∧ ∀ j, j < 6 → F[j]? = some (ygv S.1 j)) ∧ zRow h (s + 2) S.2.1 ∧ S.2.1.length = 6 ∧ S.1.length ≤ 6
def zK6 (h : zH) (as : List Nat) : Prop := ∀ a, a ∈ as → ∃ vs, h.1 a = (6, vs)
theorem zSta_fr {h h' : zH} {lo hi s : Nat} {S : yS} (hs : zSta h s S) (hf : zfr lo hi h h') (hq : s + 4 ≤ lo ∨ hi ≤ s) : zSta h' s S := by
  obtain ⟨h1, ⟨F, h2, h3⟩, h4, h5⟩ := hs
  exact ⟨by rw [hf.1 s (by omega), h1], ⟨F, by rw [hf.1 (s + 1) (by omega), h2], h3⟩, zRow_fr h4 hf (by omega), h5⟩
theorem zSta_rc {h : zH} {s : Nat} {S : yS} {X : zR} (hs : zSta h s S) : zrc (h.1 s) 3 X = X := by
  rw [hs.1]
  exact zrc_k
theorem ygv_k {as : List Nat} {j a : Nat} (h : as[j]? = some a) : ygv as j = .ref a := by
  unfold ygv
  rw [h]
theorem ygv_n {as : List Nat} {j : Nat} (h : as[j]? = none) : ygv as j = .null := by
  unfold ygv
  rw [h]
theorem zK6_fr {h h' : zH} {lo hi : Nat} {as : List Nat} (hs : zK6 h as) (hf : zfr lo hi h h') (hq : ∀ a, a ∈ as → a < lo ∨ hi ≤ a) : zK6 h' as := fun a ha => by
  obtain ⟨vs, e⟩ := hs a ha
  exact ⟨vs, by rw [hf.1 a (hq a ha), e]⟩
theorem zasr_6 {F vs : List Value} {i b : Nat} {K : zC → zR} (hi : i < F.length) (h2 : i < 2 ^ 31) : zasr (25, F) (6, vs) 25 6 (nI i) b K = K (25, F.set i (.ref b)) := zasr_k hi h2
theorem zaelv {F : List Value} {kd i : Nat} {v : Value} {K : Value → zR} (hv : F[i]? = some v) (h2 : i < 2 ^ 31) : zael (kd, F) kd (nI i) K = K v := zael_k hv h2
section ZDJ
variable {sv : Nat → Value} {d : Nat}
theorem d_173k {h : zH} {s i a : Nat} {S : yS} (hs : zSta h s S) (hi : S.1[i]? = some a) : zcall zP sv (d + 1) 173 [.ref s, .int (nI i)] h = some (.inl (some (.ref a)), h) := by
  have h0 := (List.getElem?_eq_some_iff.mp hi).1
  obtain ⟨h1, ⟨F, h2, h3, h4⟩, _, _, h6⟩ := hs
  have e1 := h4 i (by omega)
  rw [ygv_k hi] at e1
  rw [zc_173, zs_173_0, zs_173_1, if_neg (nI_pos (by omega)), zs_173_4, zs_173_5, zs_173_6, h1, zf_3_1, zs_173_9, if_pos (nI_lt h0 (by omega)), zs_173_12, zs_173_13, zs_173_14, h1, zf_3_0, zs_173_17, h2, zaln_k (by decide), zs_173_18, h3, if_pos (nI_lt (by omega) (by omega)), zs_173_21, zs_173_22, h1, zf_3_0, zs_173_25, zs_173_26, h2, zaelv e1 (by omega), zs_173_27, zs_173_31]
theorem d_173n {h : zH} {s : Nat} {x : Int32} {S : yS} (hs : zSta h s S) (hx : x < 0 ∨ ¬ x < nI S.1.length) : zcall zP sv (d + 1) 173 [.ref s, .int x] h = some (.inl (some .null), h) := by
  obtain ⟨h1, _⟩ := hs
  by_cases g : x < 0
  · rw [zc_173, zs_173_0, zs_173_1, if_pos g, zs_173_30, zs_173_31n]
  · have g2 := hx.resolve_left g
    rw [zc_173, zs_173_0, zs_173_1, if_neg g, zs_173_4, zs_173_5, zs_173_6, h1, zf_3_1, zs_173_9, if_neg g2, zs_173_30, zs_173_31n]
theorem d_175 {h : zH} {r i b : Nat} {F : List Value} {w1 w2 w3 w4 : Value} (h1 : h.1 r = (3, [.ref (r + 1), w1, w2, w3, w4])) (h2 : h.1 (r + 1) = (25, F)) (h3 : F.length = 6) (hi : i < 6) (hb : ∃ vs, h.1 b = (6, vs)) : zcall zP sv (d + 1) 175 [.ref r, .int (nI i), .ref b] h = some (.inl none, zup h (r + 1) (25, F.set i (.ref b))) := by
  obtain ⟨vs, hb⟩ := hb
  rw [zc_175, zs_175_0, zs_175_1, if_neg (nI_pos (by omega)), zs_175_4, zs_175_5, zs_175_6, h1, zf_3_0, zs_175_9, h2, zaln_k (by decide), zs_175_10, h3, if_pos (nI_lt hi (by omega)), zs_175_13, zs_175_14, h1, zf_3_0, zs_175_17, zs_175_18, zs_175_19, h2, hb, zasr_6 (by omega) (by omega), zs_175_20]
theorem d_174 {h : zH} {s b : Nat} {S : yS} (hs : zSta h s S) (hl : S.1.length < 6) (hb : ∃ vs, h.1 b = (6, vs)) (hd : b < s ∨ s + 4 ≤ b) : ∃ h', zcall zP sv (d + 2) 174 [.ref s, .ref b] h = some (.inl (some (.int (nI S.1.length))), h') ∧ zSta h' s (S.1 ++ [b], S.2) ∧ zfr s (s + 4) h h' := by
  obtain ⟨h1, ⟨F, h2, h3, h4⟩, h5, h6, h7⟩ := hs
  obtain ⟨vs, hb⟩ := hb
  have a1 : (zup h s (3, [.ref (s + 1), .int (nI (S.1.length + 1)), .ref (s + 2), .int S.2.2.1, .int S.2.2.2])).1 (s + 1) = (25, F) := by rw [zup_ne (by omega), h2]
  have e1 := d_175 (sv := sv) (d := d) (i := S.1.length) (b := b) (zup_at (h := h) (a := s) (c := (3, [.ref (s + 1), .int (nI (S.1.length + 1)), .ref (s + 2), .int S.2.2.1, .int S.2.2.2]))) a1 h3 hl ⟨vs, by rw [zup_ne (by omega), hb]⟩
  have hl2 : (S.1 ++ [b]).length = S.1.length + 1 := by rw [List.length_append]; rfl
  have hsb : nI (S.1.length + 1) - nI 1 = nI S.1.length := by rw [← nI_add, Int32.add_sub_cancel]
  refine ⟨_, ?_, ⟨by rw [zup_ne (by omega), zup_at, hl2], ⟨F.set S.1.length (.ref b), zup_at, by rw [List.length_set, h3], fun j hj => ?_⟩, zRow_up (zRow_up h5 (by omega) (by omega)) (by omega) (by omega), h6, by rw [hl2]; omega⟩, zfr_tr (zfr_up (c := (3, [.ref (s + 1), .int (nI (S.1.length + 1)), .ref (s + 2), .int S.2.2.1, .int S.2.2.2])) (by omega) (by omega)) (zfr_up (by omega) (by omega))⟩
  · simp only [zc_174, zs_174_0, zs_174_0n, zs_174_1, zs_174_2, zs_174_5, zs_174_6, zs_174_7, zs_174_10, zs_174_10n, zs_174_11, zs_174_11n, zs_174_12, zs_174_15, zs_174_16, zs_174_17, zs_174_17n, zs_174_18, zs_174_21, zs_174_21n, zs_174_22, zs_174_25, zs_174_26, zs_174_27, h1, zrc_3, zf_3_0, zp_3_0, zp_3_0n, zf_3_1, zp_3_1, zf_3_2, zp_3_2, zp_3_2n, zf_3_3, zp_3_3, zf_3_4, zp_3_4, zup_at, nI_1', hsb, e1, zup_ne (show s ≠ s + 1 by omega), zbk_v, zts_s, zts_n]
  · by_cases hj2 : j = S.1.length
    · subst hj2
      rw [List.getElem?_set_self (by omega), ygv_k]
      rw [List.getElem?_append_right (Nat.le_refl _), Nat.sub_self]
      rfl
    · rw [List.getElem?_set_ne (by omega), h4 j hj]
      unfold ygv
      by_cases hj3 : j < S.1.length
      · rw [List.getElem?_append_left hj3]
      · rw [List.getElem?_eq_none (by omega), List.getElem?_eq_none (by rw [hl2]; omega)]
end ZDJ

theorem ygv_er {as : List Nat} {i j : Nat} (hi : i < as.length) : ygv (as.eraseIdx i) j = if j < i then ygv as j else ygv as (j + 1) := by
  unfold ygv
  rw [List.getElem?_eraseIdx]
  by_cases h : j < i
  · rw [if_pos h, if_pos h]
  · rw [if_neg h, if_neg h]
theorem ygv_mem {as : List Nat} {j : Nat} : ygv as j = .null ∨ ∃ a, a ∈ as ∧ ygv as j = .ref a := by
  unfold ygv
  cases h : as[j]? with
  | none => exact Or.inl rfl
  | some a => exact Or.inr ⟨a, List.mem_of_getElem? h, rfl⟩
section ZDK
variable {sv : Nat → Value} {d : Nat}
/-- replace by what formula answers -/
theorem d_175v {h : zH} {r i : Nat} {v : Value} {F : List Value} {w1 w2 w3 w4 : Value} (h1 : h.1 r = (3, [.ref (r + 1), w1, w2, w3, w4])) (h2 : h.1 (r + 1) = (25, F)) (h3 : F.length = 6) (hi : i < 6) (hb : v = .null ∨ ∃ b vs, v = .ref b ∧ h.1 b = (6, vs)) : zcall zP sv (d + 1) 175 [.ref r, .int (nI i), v] h = some (.inl none, zup h (r + 1) (25, F.set i v)) := by
  rcases hb with rfl | ⟨b, vs, rfl, hb⟩
  · have e0 : zcall zP sv (d + 1) 175 [.ref r, .int (nI i), .null] h = zrun zP sv (zcall zP sv d) 175 0 [.val (.ref r), .val (.int (nI i)), .val .null] [] h := zcall_s (n := 3) rfl rfl (Nat.le_of_ble_eq_true rfl)
    rw [e0, zs_175_0, zs_175_1, if_neg (nI_pos (by omega)), zs_175_4, zs_175_5, zs_175_6, h1, zf_3_0, zs_175_9, h2, zaln_k (by decide), zs_175_10, h3, if_pos (nI_lt hi (by omega)), zs_175_13, zs_175_14, h1, zf_3_0, zs_175_17, zs_175_18n, zs_175_19n, h2, zasn_k (by omega) (by omega), zs_175_20]
  · exact d_175 h1 h2 h3 hi ⟨vs, hb⟩
theorem d_173v {h : zH} {s i : Nat} {S : yS} (hs : zSta h s S) (hi : i < 2 ^ 31) : zcall zP sv (d + 1) 173 [.ref s, .int (nI i)] h = some (.inl (some (ygv S.1 i)), h) := by
  have hl := hs.2.2.2.2
  cases hc : S.1[i]? with
  | some a => rw [ygv_k hc]; exact d_173k hs hc
  | none =>
    rw [ygv_n hc]
    have := List.getElem?_eq_none_iff.mp hc
    exact d_173n hs (Or.inr (nI_nlt this hi))
theorem d_176l {s i : Nat} {S : yS} (hi : i < S.1.length) (hl : S.1.length ≤ 6) : ∀ n k (h : zH) (F : List Value), k + n = S.1.length → i ≤ k → h.1 s = (3, [.ref (s + 1), .int (nI S.1.length), .ref (s + 2), .int S.2.2.1, .int S.2.2.2]) → h.1 (s + 1) = (25, F) → F.length = 6 → (∀ j, j < 6 → F[j]? = some (if i ≤ j ∧ j < k then ygv S.1 (j + 1) else ygv S.1 j)) → zK6 h S.1 → (∀ a, a ∈ S.1 → a ≠ s + 1) → ∃ F', zrun zP sv (zcall zP sv (d + 1)) 176 2 [.val (.ref s), .val (.int (nI i)), .val (.int (nI k))] [] h = zrun zP sv (zcall zP sv (d + 1)) 176 28 [.val (.ref s), .val (.int (nI i)), .val (.int (nI S.1.length))] [] (zup h (s + 1) (25, F')) ∧ F'.length = 6 ∧ ∀ j, j < 6 → F'[j]? = some (if i ≤ j ∧ j < S.1.length then ygv S.1 (j + 1) else ygv S.1 j) := by
  intro n
  induction n with
  | zero =>
    intro k h F hk hik h1 h2 h3 h4 h5 h6
    obtain rfl : k = S.1.length := by omega
    refine ⟨F, ?_, h3, h4⟩
    rw [zs_176_2, zs_176_3, zs_176_4, h1, zf_3_1, zs_176_7, if_neg (nI_nlt (Nat.le_refl _) (by omega)), zup_self h2]
  | succ n ih =>
    intro k h F hk hik h1 h2 h3 h4 h5 h6
    have hg : zcall zP sv (d + 1) 173 [.ref s, .int (nI (k + 1))] h = some (.inl (some (ygv S.1 (k + 1))), h) := by
      cases hc : S.1[k + 1]? with
      | some a =>
        have hka := (List.getElem?_eq_some_iff.mp hc).1
        rw [ygv_k hc]
        have e4 := h4 (k + 1) (by omega)
        rw [if_neg (by omega), ygv_k hc] at e4
        rw [zc_173, zs_173_0, zs_173_1, if_neg (nI_pos (by omega)), zs_173_4, zs_173_5, zs_173_6, h1, zf_3_1, zs_173_9, if_pos (nI_lt hka (by omega)), zs_173_12, zs_173_13, zs_173_14, h1, zf_3_0, zs_173_17, h2, zaln_k (by decide), zs_173_18, h3, if_pos (nI_lt (by omega) (by omega)), zs_173_21, zs_173_22, h1, zf_3_0, zs_173_25, zs_173_26, h2, zaelv e4 (by omega), zs_173_27, zs_173_31]
      | none =>
        have hka := List.getElem?_eq_none_iff.mp hc
        rw [ygv_n hc]
        rw [zc_173, zs_173_0, zs_173_1, if_neg (nI_pos (by omega)), zs_173_4, zs_173_5, zs_173_6, h1, zf_3_1, zs_173_9, if_neg (nI_nlt (by omega) (by omega)), zs_173_30, zs_173_31n]
    have hb : ygv S.1 (k + 1) = .null ∨ ∃ b vs, ygv S.1 (k + 1) = .ref b ∧ h.1 b = (6, vs) := by
      rcases ygv_mem (as := S.1) (j := k + 1) with e | ⟨a, ha, e⟩
      · exact Or.inl e
      · obtain ⟨vs, hv⟩ := h5 a ha
        exact Or.inr ⟨a, vs, e, hv⟩
    have e1 := d_175v (sv := sv) (d := d) (i := k) h1 h2 h3 (by omega) hb
    obtain ⟨F', e2, w1, w2⟩ := ih (k + 1) (zup h (s + 1) (25, F.set k (ygv S.1 (k + 1)))) (F.set k (ygv S.1 (k + 1))) (by omega) (by omega) (by rw [zup_ne (by omega), h1]) zup_at (by rw [List.length_set, h3]) (fun j hj => by
      by_cases hjk : j = k
      · subst hjk
        rw [List.getElem?_set_self (by omega), if_pos (by omega)]
      · rw [List.getElem?_set_ne (Ne.symm hjk), h4 j hj]
        by_cases hc : i ≤ j ∧ j < k
        · rw [if_pos hc, if_pos (by omega)]
        · rw [if_neg hc, if_neg (by omega)]) (fun a ha => by
      obtain ⟨vs, hv⟩ := h5 a ha
      exact ⟨vs, by rw [zup_ne (h6 a ha), hv]⟩) h6
    rw [zup_up] at e2
    refine ⟨F', ?_, w1, w2⟩
    have hrc : zrc (h.1 s) 3 = fun X => X := by
      funext X
      rw [h1]
      exact zrc_k
    rcases hb with e | ⟨b, vs, e, hv⟩
    · rw [e] at hg e1 e2
      rw [zs_176_2, zs_176_3, zs_176_4, h1, zf_3_1, zs_176_7, if_pos (nI_lt (by omega) (by omega)), zs_176_10, zs_176_11, zs_176_12, zs_176_13, zs_176_14, zs_176_15, zs_176_16, hrc, nI_1', hg, zbk_v, zts_s, zs_176_19, hrc, e1, zbk_v, zts_n, zs_176_22, zs_176_25, nI_1', e2]
    · rw [e] at hg e1 e2
      rw [zs_176_2, zs_176_3, zs_176_4, h1, zf_3_1, zs_176_7, if_pos (nI_lt (by omega) (by omega)), zs_176_10, zs_176_11, zs_176_12, zs_176_13, zs_176_14, zs_176_15, zs_176_16, hrc, nI_1', hg, zbk_v, zts_s, zs_176_19, hrc, e1, zbk_v, zts_n, zs_176_22, zs_176_25, nI_1', e2]
theorem d_176 {h : zH} {s i : Nat} {S : yS} (hs : zSta h s S) (hi : i < S.1.length) (h5 : zK6 h S.1) (h6 : ∀ a, a ∈ S.1 → a ≠ s + 1) : ∃ h', zcall zP sv (d + 2) 176 [.ref s, .int (nI i)] h = some (.inl none, h') ∧ zSta h' s (S.1.eraseIdx i, S.2) ∧ zfr s (s + 4) h h' := by
  obtain ⟨h1, ⟨F, h2, h3, h4⟩, h7, h8, h9⟩ := hs
  obtain ⟨F', e1, w1, w2⟩ := d_176l (sv := sv) (d := d) hi h9 (S.1.length - i) i h F (by omega) (Nat.le_refl _) h1 h2 h3 (fun j hj => by rw [if_neg (by omega), h4 j hj]) h5 h6
  have hle : (S.1.eraseIdx i).length = S.1.length - 1 := by rw [List.length_eraseIdx, if_pos hi]
  have hsb : nI S.1.length - nI 1 = nI (S.1.length - 1) := by
    conv => lhs; rw [show S.1.length = S.1.length - 1 + 1 by omega, ← nI_add, Int32.add_sub_cancel]
  refine ⟨zup (zup h (s + 1) (25, F')) s (3, [.ref (s + 1), .int (nI (S.1.length - 1)), .ref (s + 2), .int S.2.2.1, .int S.2.2.2]), ?_, ⟨by rw [zup_at, hle], ⟨F', by rw [zup_ne (by omega), zup_at], w1, fun j hj => ?_⟩, zRow_up (zRow_up h7 (by omega) (by omega)) (by omega) (by omega), h8, by rw [hle]; omega⟩, zfr_tr (zfr_up (c := (25, F')) (by omega) (by omega)) (zfr_up (by omega) (by omega))⟩
  · have g1 : (zup h (s + 1) (25, F')).1 s = (3, [.ref (s + 1), .int (nI S.1.length), .ref (s + 2), .int S.2.2.1, .int S.2.2.2]) := by rw [zup_ne (by omega), h1]
    rw [zc_176, zs_176_0, zs_176_1 znw_u, e1, zs_176_28, zs_176_29, zs_176_30, g1, zf_3_1, zs_176_33, zs_176_34, hsb, zs_176_35, g1, zp_3_1, zs_176_38]
  · rw [w2 j hj, ygv_er hi]
    by_cases hc : j < i
    · rw [if_pos hc, if_neg (by omega)]
    · rw [if_neg hc]
      by_cases hc2 : j < S.1.length
      · rw [if_pos ⟨by omega, hc2⟩]
      · rw [if_neg (by omega), ygv_n (List.getElem?_eq_none_iff.mpr (by omega)), ygv_n (List.getElem?_eq_none_iff.mpr (by omega))]
theorem d_180l {r s : Nat} {S : yS} {w1 w2 w3 w4 : Value} (hd : r + 4 ≤ s ∨ s + 4 ≤ r) : ∀ n i (h : zH) (F : List Value), i + n = 6 → h.1 r = (3, [.ref (r + 1), w1, w2, w3, w4]) → h.1 (r + 1) = (25, F) → F.length = 6 → (∀ j, j < i → F[j]? = some (ygv S.1 j)) → zSta h s S → zK6 h S.1 → (∀ a, a ∈ S.1 → a ≠ r + 1) → ∃ F', zrun zP sv (zcall zP sv (d + 1)) 180 10 [.val (.ref r), .val (.ref s), .val (.int (nI i))] [] h = zrun zP sv (zcall zP sv (d + 1)) 180 36 [.val (.ref r), .val (.ref s), .val (.int (nI 6))] [] (zup h (r + 1) (25, F')) ∧ F'.length = 6 ∧ ∀ j, j < 6 → F'[j]? = some (ygv S.1 j) := by
  intro n
  induction n with
  | zero =>
    intro i h F hin hr hf hF he hs h5 h6
    obtain rfl : i = 6 := by omega
    refine ⟨F, ?_, hF, he⟩
    rw [zs_180_10, zs_180_11, zs_180_12, hr, zf_3_0, zs_180_15, hf, zaln_k (by decide), zs_180_16, hF, if_neg (nI_nlt (by omega) (by omega)), zup_self hf]
  | succ n ih =>
    intro i h F hin hr hf hF he hs h5 h6
    have e1 := d_173v (sv := sv) (d := d) (i := i) hs (by omega)
    obtain ⟨F', e2, w1, w2⟩ := ih (i + 1) (zup h (r + 1) (25, F.set i (ygv S.1 i))) (F.set i (ygv S.1 i)) (by omega) (by rw [zup_ne (by omega), hr]) zup_at (by rw [List.length_set, hF]) (fun j hj => by
      by_cases hjk : j = i
      · subst hjk
        rw [List.getElem?_set_self (by omega)]
      · rw [List.getElem?_set_ne (Ne.symm hjk), he j (by omega)]) (zSta_fr hs (zfr_up (lo := r) (hi := r + 4) (by omega) (by omega)) (by omega)) (fun a ha => by
      obtain ⟨vs, hv⟩ := h5 a ha
      exact ⟨vs, by rw [zup_ne (h6 a ha), hv]⟩) h6
    rw [zup_up] at e2
    refine ⟨F', ?_, w1, w2⟩
    rcases ygv_mem (as := S.1) (j := i) with e | ⟨a, ha, e⟩
    · rw [e] at e1 e2
      rw [zs_180_10, zs_180_11, zs_180_12, hr, zf_3_0, zs_180_15, hf, zaln_k (by decide), zs_180_16, hF, if_pos (nI_lt (by omega) (by omega)), zs_180_19, zs_180_20, hr, zf_3_0, zs_180_23, zs_180_24, zs_180_25, zs_180_26, zSta_rc hs, e1, zbk_v, zts_s, zs_180_29n, hf, zasn_k (by omega) (by omega), zs_180_30, zs_180_33, nI_1', e2]
    · obtain ⟨vs, hv⟩ := h5 a ha
      rw [e] at e1 e2
      rw [zs_180_10, zs_180_11, zs_180_12, hr, zf_3_0, zs_180_15, hf, zaln_k (by decide), zs_180_16, hF, if_pos (nI_lt (by omega) (by omega)), zs_180_19, zs_180_20, hr, zf_3_0, zs_180_23, zs_180_24, zs_180_25, zs_180_26, zSta_rc hs, e1, zbk_v, zts_s, zs_180_29, hf, hv, zasr_6 (by omega) (by omega), zs_180_30, zs_180_33, nI_1', e2]
theorem d_167l {r t : Nat} {A : List Int32} (hd : r + 2 ≤ t ∨ t + 2 ≤ r) : ∀ n i (h : zH) (B : List Int32), i + n = A.length → zRow h r B → zRow h t A → B.length = A.length → (∀ j, j < i → B[j]? = A[j]?) → zrun zP sv (zcall zP sv (d + 1)) 167 2 [.val (.ref r), .val (.ref t), .val (.int (nI i))] [] h = some (.inl none, zup h (r + 1) (20, A.map Value.int)) := by
  intro n
  induction n with
  | zero =>
    intro i h B hin hr ht hB he
    obtain rfl : i = A.length := by omega
    have hl := ht.2.2
    have e0 : B = A := List.ext_getElem? fun j => by
      by_cases hj : j < A.length
      · exact he j hj
      · rw [List.getElem?_eq_none (by omega), List.getElem?_eq_none (by omega)]
    subst e0
    rw [zs_167_2, zs_167_3, zs_167_4, hr.1, zf_4_0, zs_167_7, hr.2.1, zaln_k (by decide), List.length_map, zs_167_8, if_neg (nI_nlt (Nat.le_refl _) hl), zs_167_28, zup_self hr.2.1]
  | succ n ih =>
    intro i h B hin hr ht hB he
    have hl := ht.2.2
    have hA : A[i]? = some (A.getD i 0) := by rw [List.getD_eq_getElem?_getD, List.getElem?_eq_getElem (by omega)]; rfl
    have e1 : zrun zP sv (zcall zP sv (d + 1)) 167 2 [.val (.ref r), .val (.ref t), .val (.int (nI i))] [] h = zrun zP sv (zcall zP sv (d + 1)) 167 2 [.val (.ref r), .val (.ref t), .val (.int (nI (i + 1)))] [] (zup h (r + 1) (20, (B.set i (A.getD i 0)).map Value.int)) := by
      rw [zs_167_2, zs_167_3, zs_167_4, hr.1, zf_4_0, zs_167_7, hr.2.1, zaln_k (by decide), List.length_map, hB, zs_167_8, if_pos (nI_lt (by omega) hl), zs_167_11, zs_167_12, hr.1, zf_4_0, zs_167_15, zs_167_16, zs_167_17, zs_167_18, zRow_rc ht, d_165 ht, yg_k (by omega), zbk_v, zts_s, zs_167_21, hr.2.1, zaset_k (by rw [List.length_map]; omega) (by omega), ← List.map_set, zs_167_22, zs_167_25, nI_1']
    rw [e1, ih (i + 1) _ (B.set i (A.getD i 0)) (by omega) (zRow_new hr (by rw [List.length_set])) (zRow_up ht (by omega) (by omega)) (by rw [List.length_set, hB]) (fun j hj => ?_), zup_up]
    by_cases hj2 : j = i
    · subst hj2
      rw [List.getElem?_set_self (by omega), hA]
    · rw [List.getElem?_set_ne (by omega), he j (by omega)]
theorem d_167 {h : zH} {r t : Nat} {A B : List Int32} (hr : zRow h r B) (ht : zRow h t A) (hd : r + 2 ≤ t ∨ t + 2 ≤ r) (hB : B.length = A.length) : zcall zP sv (d + 2) 167 [.ref r, .ref t] h = some (.inl none, zup h (r + 1) (20, A.map Value.int)) := by
  have e1 := d_167l (sv := sv) (d := d) hd A.length 0 h B (Nat.zero_add _) hr ht hB (fun j hj => absurd hj (Nat.not_lt_zero j))
  rw [nI_0] at e1
  rw [zc_167, zs_167_0, zs_167_1 znw_u, e1]
theorem d_180 {h : zH} {r s : Nat} {R S : yS} (hr : zSta h r R) (hs : zSta h s S) (hd : r + 4 ≤ s ∨ s + 4 ≤ r) (h5 : zK6 h S.1) (h6 : ∀ a, a ∈ S.1 → a < r ∨ r + 4 ≤ a) : ∃ h', zcall zP sv (d + 3) 180 [.ref r, .ref s] h = some (.inl none, h') ∧ zSta h' r S ∧ zfr r (r + 4) h h' := by
  obtain ⟨r1, ⟨F, r2, r3, r4⟩, r5, r6, r7⟩ := hr
  have f1 : zfr r (r + 4) h (zup h r (3, [.ref (r + 1), .int (nI S.1.length), .ref (r + 2), .int R.2.2.1, .int R.2.2.2])) := zfr_up (by omega) (by omega)
  have a0 : (zup h r (3, [.ref (r + 1), .int (nI S.1.length), .ref (r + 2), .int R.2.2.1, .int R.2.2.2])).1 r = (3, [.ref (r + 1), .int (nI S.1.length), .ref (r + 2), .int R.2.2.1, .int R.2.2.2]) := zup_at
  have a1 := zSta_fr hs f1 (by omega)
  have b5 := zRow_up (a := r) (c := (3, [.ref (r + 1), .int (nI S.1.length), .ref (r + 2), .int R.2.2.1, .int R.2.2.2])) r5 (by omega) (by omega)
  have a5 : zK6 (zup h r (3, [.ref (r + 1), .int (nI S.1.length), .ref (r + 2), .int R.2.2.1, .int R.2.2.2])) S.1 := zK6_fr h5 f1 h6
  obtain ⟨F', e1, w1, w2⟩ := d_180l (sv := sv) (d := d + 1) hd 6 0 _ F rfl a0 (by rw [zup_ne (by omega), r2]) r3 (fun j hj => absurd hj (Nat.not_lt_zero j)) a1 a5 (fun a ha => by have := h6 a ha; omega)
  rw [nI_0] at e1
  have f2 := zfr_tr f1 (zfr_up (c := (25, F')) (show r ≤ r + 1 by omega) (by omega))
  have c0 : (zup (zup h r (3, [.ref (r + 1), .int (nI S.1.length), .ref (r + 2), .int R.2.2.1, .int R.2.2.2])) (r + 1) (25, F')).1 r = (3, [.ref (r + 1), .int (nI S.1.length), .ref (r + 2), .int R.2.2.1, .int R.2.2.2]) := by rw [zup_ne (by omega), zup_at]
  have c1 := zSta_fr hs f2 (by omega)
  have c5 := zRow_up (a := r + 1) (c := (25, F')) b5 (by omega) (by omega)
  have c6 : (zup (zup h r (3, [.ref (r + 1), .int (nI S.1.length), .ref (r + 2), .int R.2.2.1, .int R.2.2.2])) (r + 1) (25, F')).1 (r + 1) = (25, F') := zup_at
  have q1 := hs.1
  have e0 : zcall zP sv (d + 3) 180 [.ref r, .ref s] h = zrun zP sv (zcall zP sv (d + 2)) 180 36 [.val (.ref r), .val (.ref s), .val (.int (nI 6))] [] (zup (zup h r (3, [.ref (r + 1), .int (nI S.1.length), .ref (r + 2), .int R.2.2.1, .int R.2.2.2])) (r + 1) (25, F')) := by
    rw [zc_180, zs_180_0, zs_180_1, zs_180_2, q1, zf_3_1, zs_180_5, r1, zp_3_1, zs_180_8, zs_180_9 znw_u, e1]
  generalize zup (zup h r (3, [.ref (r + 1), .int (nI S.1.length), .ref (r + 2), .int R.2.2.1, .int R.2.2.2])) (r + 1) (25, F') = h2 at *
  have e2 := d_167 (sv := sv) (d := d) c5 c1.2.2.1 (by omega) (by rw [r6, c1.2.2.2.1])
  have f3 := zfr_tr f2 (zfr_up (c := (20, S.2.1.map Value.int)) (show r ≤ r + 2 + 1 by omega) (by omega))
  have g0 : (zup h2 (r + 2 + 1) (20, S.2.1.map Value.int)).1 r = (3, [.ref (r + 1), .int (nI S.1.length), .ref (r + 2), .int R.2.2.1, .int R.2.2.2]) := by rw [zup_ne (by omega), c0]
  have g1 := zSta_fr hs f3 (by omega)
  have g5 : zRow (zup h2 (r + 2 + 1) (20, S.2.1.map Value.int)) (r + 2) S.2.1 := zRow_new c5 (by rw [r6, c1.2.2.2.1])
  have g6 : (zup h2 (r + 2 + 1) (20, S.2.1.map Value.int)).1 (r + 1) = (25, F') := by rw [zup_ne (by omega), c6]
  rw [zs_180_36, zs_180_37, c0, zf_3_2, zs_180_40, zs_180_41, c1.1, zf_3_2, zs_180_44, zRow_rc c5, e2, zbk_v, zts_n] at e0
  generalize zup h2 (r + 2 + 1) (20, S.2.1.map Value.int) = h3 at *
  have k1 : (zup h3 r (3, [.ref (r + 1), .int (nI S.1.length), .ref (r + 2), .int S.2.2.1, .int R.2.2.2])).1 s = h3.1 s := zup_ne (by omega)
  refine ⟨zup h3 r (3, [.ref (r + 1), .int (nI S.1.length), .ref (r + 2), .int S.2.2.1, .int S.2.2.2]), ?_, ⟨zup_at, ⟨F', by rw [zup_ne (by omega), g6], w1, w2⟩, zRow_up g5 (by omega) (by omega), c1.2.2.2.1, c1.2.2.2.2⟩, zfr_tr f3 (zfr_up (by omega) (by omega))⟩
  rw [e0, zs_180_47, zs_180_48, zs_180_49, g1.1, zf_3_3, zs_180_52, g0, zp_3_3, zs_180_55, zs_180_56, zs_180_57, k1, g1.1, zf_3_4, zs_180_60, zup_at, zp_3_4, zs_180_63, zup_up]
end ZDK

/-- a History at g: its ring of eight States at g + 2 + 4 k; H: what is remembered, the latest first -/
def zHL (g : Nat) : List Value := [.ref (g + 2), .ref (g + 6), .ref (g + 10), .ref (g + 14), .ref (g + 18), .ref (g + 22), .ref (g + 26), .ref (g + 30)]
def zHis (h : zH) (g : Nat) (H : List yS) : Prop := ∃ nx, nx < 8 ∧ h.1 g = (5, [.ref (g + 1), .int (nI nx), .int (nI H.length)]) ∧ h.1 (g + 1) = (26, zHL g) ∧ (∀ k, k < 8 → ∃ S, zSta h (g + 2 + 4 * k) S) ∧ (∀ j S, H[j]? = some S → zSta h (g + 2 + 4 * ((nx + 7 - j) % 8)) S) ∧ H.length ≤ 8
theorem zHL_k {g : Nat} : ∀ k, k < 8 → (zHL g)[k]? = some (.ref (g + 2 + 4 * k)) := by
  intro k hk
  rcases (show k = 0 ∨ k = 1 ∨ k = 2 ∨ k = 3 ∨ k = 4 ∨ k = 5 ∨ k = 6 ∨ k = 7 by omega) with rfl | rfl | rfl | rfl | rfl | rfl | rfl | rfl <;> rfl
theorem zHis_fr {h h' : zH} {lo hi g : Nat} {H : List yS} (hg : zHis h g H) (hf : zfr lo hi h h') (hq : g + 34 ≤ lo ∨ hi ≤ g) : zHis h' g H := by
  obtain ⟨nx, h0, h1, h2, h3, h4, h5⟩ := hg
  refine ⟨nx, h0, by rw [hf.1 g (by omega), h1], by rw [hf.1 (g + 1) (by omega), h2], fun k hk => ?_, fun j S hj => ?_, h5⟩
  · obtain ⟨S, hS⟩ := h3 k hk
    exact ⟨S, zSta_fr hS hf (by omega)⟩
  · exact zSta_fr (h4 j S hj) hf (by omega)
theorem zHis_rc {h : zH} {g : Nat} {H : List yS} {X : zR} (hg : zHis h g H) : zrc (h.1 g) 5 X = X := by
  obtain ⟨nx, _, h1, _⟩ := hg
  rw [h1]
  exact zrc_k
theorem nI_mod8 : ∀ a, a < 16 → nI a - nI a / nI 8 * nI 8 = nI (a % 8) := by decide +kernel
theorem nI_78 {n : Nat} (h : n < 8) : nI n + nI 8 - nI 1 = nI (n + 7) := by
  rw [nI_add, show n + 8 = n + 7 + 1 by omega, ← nI_add (n + 7) 1, Int32.add_sub_cancel]
section ZDL
variable {sv : Nat → Value} {d : Nat}
theorem d_131 {h : zH} {g : Nat} {H : List yS} (hg : zHis h g H) : zcall zP sv (d + 1) 131 [.ref g] h = some (.inl (some (.int (nI H.length))), h) := by
  obtain ⟨nx, _, h1, _⟩ := hg
  rw [zc_131, zs_131_0, zs_131_1, h1, zf_5_2, zs_131_4]
theorem d_134 {h : zH} {g : Nat} {H : List yS} (hg : zHis h g H) : ∃ h', zcall zP sv (d + 1) 134 [.ref g] h = some (.inl none, h') ∧ zHis h' g [] ∧ zfr g (g + 34) h h' := by
  obtain ⟨nx, h0, h1, h2, h3, h4, h5⟩ := hg
  have f1 : zfr g (g + 1) h (zup h g (5, [.ref (g + 1), .int (nI nx), .int 0])) := zfr_up (by omega) (by omega)
  refine ⟨zup h g (5, [.ref (g + 1), .int (nI nx), .int 0]), ?_, ⟨nx, h0, by rw [zup_at, List.length_nil, nI_0], by rw [zup_ne (by omega), h2], fun k hk => ?_, fun j S hj => ?_, by decide⟩, zfr_mono f1 (by omega) (by omega)⟩
  · simp only [zc_134, zs_134_0, zs_134_0n, zs_134_1, zs_134_2, zs_134_5, h1, zrc_5, zf_5_0, zp_5_0, zp_5_0n, zf_5_1, zp_5_1, zf_5_2, zp_5_2]
  · obtain ⟨S, hS⟩ := h3 k hk
    exact ⟨S, zSta_fr hS f1 (by omega)⟩
  · rw [List.getElem?_nil] at hj
    cases hj
theorem d_135 {h : zH} {g nx : Nat} {v1 v2 : Value} (h1 : h.1 g = (5, [.ref (g + 1), v1, v2])) (h2 : h.1 (g + 1) = (26, zHL g)) (hn : nx < 8) : zcall zP sv (d + 1) 135 [.ref g, .int (nI nx)] h = some (.inl (some (.ref (g + 2 + 4 * nx))), h) := by
  rw [zc_135, zs_135_0, zs_135_1, if_neg (nI_pos (by omega)), zs_135_4, zs_135_5, zs_135_6, h1, zf_5_0, zs_135_9, h2, zaln_k (by decide), show (zHL g).length = 8 from rfl, zs_135_10, if_pos (nI_lt hn (by decide)), zs_135_13, zs_135_14, h1, zf_5_0, zs_135_17, zs_135_18, h2, zaelv (zHL_k nx hn) (by omega), zs_135_19, zs_135_23]
theorem d_132 {h : zH} {g s : Nat} {S : yS} {H : List yS} (hg : zHis h g H) (hs : zSta h s S) (hd : g + 34 ≤ s ∨ s + 4 ≤ g) (h5 : zK6 h S.1) (h6 : ∀ a, a ∈ S.1 → a < g ∨ g + 34 ≤ a) : ∃ h', zcall zP sv (d + 4) 132 [.ref g, .ref s] h = some (.inl none, h') ∧ zHis h' g ((S :: H).take 8) ∧ zfr g (g + 34) h h' := by
  have hrc : ∀ X, zrc (h.1 g) 5 X = X := fun X => zHis_rc hg
  obtain ⟨nx, p0, p1, p2, p3, p4, p5⟩ := hg
  obtain ⟨R, hR⟩ := p3 nx p0
  obtain ⟨h1, e1, w1, f1⟩ := d_180 (sv := sv) (d := d) hR hs (by omega) h5 (fun a ha => by have := h6 a ha; omega)
  have g1 : h1.1 g = (5, [.ref (g + 1), .int (nI nx), .int (nI H.length)]) := by rw [f1.1 g (by omega), p1]
  have g2 : h1.1 (g + 1) = (26, zHL g) := by rw [f1.1 (g + 1) (by omega), p2]
  have hlen : ((S :: H).take 8).length = min (H.length + 1) 8 := by rw [List.length_take, List.length_cons, Nat.min_comm]
  have emin : (if nI 8 < nI (H.length + 1) then nI 8 else nI (H.length + 1)) = nI ((S :: H).take 8).length := by
    rw [hlen]
    by_cases hc : 8 < H.length + 1
    · rw [if_pos (nI_lt hc (by omega)), Nat.min_eq_right (by omega)]
    · rw [if_neg (nI_nlt (by omega) (by decide)), Nat.min_eq_left (by omega)]
  have f2 : zfr g (g + 1) h1 (zup h1 g (5, [.ref (g + 1), .int (nI ((nx + 1) % 8)), .int (nI ((S :: H).take 8).length)])) := zfr_up (by omega) (by omega)
  refine ⟨zup h1 g (5, [.ref (g + 1), .int (nI ((nx + 1) % 8)), .int (nI ((S :: H).take 8).length)]), ?_, ⟨(nx + 1) % 8, by omega, zup_at, by rw [zup_ne (by omega), g2], fun k hk => ?_, fun j T hj => ?_, by rw [hlen]; omega⟩, zfr_tr (zfr_mono f1 (by omega) (by omega)) (zfr_mono f2 (by omega) (by omega))⟩
  · rw [zc_132, zs_132_0, zs_132_1, zs_132_2, p1, zf_5_1, zs_132_5, hrc, d_135 p1 p2 p0, zbk_v, zts_s, zs_132_8 znw_u, zs_132_9, zs_132_10, zs_132_13, zs_132_14, zs_132_15, zSta_rc hR, e1, zbk_v, zts_n, zs_132_18, zs_132_19, zs_132_20, g1, zf_5_1, zs_132_23, zs_132_24, zs_132_25, zs_132_27, nI_1', nI_mod8 _ (by omega), zs_132_28, g1, zp_5_1, zs_132_31, zs_132_32, zs_132_33, zup_at, zf_5_2, zs_132_36, zs_132_37, zs_132_38, zs_132_40, nI_1', emin, zs_132_43, zup_at, zp_5_2, zup_up, zs_132_46]
  · by_cases hk2 : k = nx
    · subst hk2
      exact ⟨S, zSta_fr w1 f2 (by omega)⟩
    · obtain ⟨T, hT⟩ := p3 k hk
      exact ⟨T, zSta_fr (zSta_fr hT f1 (by omega)) f2 (by omega)⟩
  · have hj8 : j < 8 := by
      have := (List.getElem?_eq_some_iff.mp hj).1
      rw [hlen] at this
      omega
    rw [List.getElem?_take_of_lt hj8] at hj
    cases j with
    | zero =>
      injection hj with hj
      subst hj
      rw [show ((nx + 1) % 8 + 7 - 0) % 8 = nx by omega]
      exact zSta_fr w1 f2 (by omega)
    | succ j =>
      rw [List.getElem?_cons_succ] at hj
      have := p4 j T hj
      rw [show ((nx + 1) % 8 + 7 - (j + 1)) % 8 = (nx + 7 - j) % 8 by omega]
      exact zSta_fr (zSta_fr this f1 (by omega)) f2 (by omega)
theorem d_133 {h : zH} {g s : Nat} {R S : yS} {H : List yS} (hg : zHis h g (S :: H)) (hs : zSta h s R) (hd : g + 34 ≤ s ∨ s + 4 ≤ g) (h5 : zK6 h S.1) (h6 : ∀ a, a ∈ S.1 → a < g ∨ g + 34 ≤ a) (h7 : ∀ a, a ∈ S.1 → a < s ∨ s + 4 ≤ a) : ∃ h', zcall zP sv (d + 4) 133 [.ref g, .ref s] h = some (.inl none, h') ∧ zHis h' g H ∧ zSta h' s S ∧ (∀ q, (q < g ∨ g + 1 ≤ q) → (q < s ∨ s + 4 ≤ q) → h'.1 q = h.1 q) ∧ h'.2 = h.2 := by
  obtain ⟨nx, p0, p1, p2, p3, p4, p5⟩ := hg
  have hS := p4 0 S rfl
  have hl : (S :: H).length = H.length + 1 := rfl
  rw [hl] at p1 p5
  have hsb : nI (H.length + 1) - nI 1 = nI H.length := by rw [← nI_add, Int32.add_sub_cancel]
  have emax : (if nI H.length < 0 then (0 : Int32) else nI H.length) = nI H.length := if_neg (nI_pos (by omega))
  have f1 : zfr g (g + 1) h (zup h g (5, [.ref (g + 1), .int (nI ((nx + 7) % 8)), .int (nI H.length)])) := zfr_up (by omega) (by omega)
  have c0 : (zup h g (5, [.ref (g + 1), .int (nI ((nx + 7) % 8)), .int (nI H.length)])).1 g = (5, [.ref (g + 1), .int (nI ((nx + 7) % 8)), .int (nI H.length)]) := zup_at
  have c1 : (zup h g (5, [.ref (g + 1), .int (nI ((nx + 7) % 8)), .int (nI H.length)])).1 (g + 1) = (26, zHL g) := by rw [zup_ne (by omega), p2]
  have c2 := zSta_fr hs f1 (by omega)
  have c3 := zSta_fr hS f1 (by omega)
  have c5 := zK6_fr h5 f1 (fun a ha => by have := h6 a ha; omega)
  obtain ⟨h1, e1, w1, f2⟩ := d_180 (sv := sv) (d := d) c2 c3 (by omega) c5 h7
  rw [show nx + 7 - 0 = nx + 7 by omega] at e1
  refine ⟨h1, ?_, ⟨(nx + 7) % 8, by omega, by rw [f2.1 g (by omega), c0], by rw [f2.1 (g + 1) (by omega), c1], fun k hk => ?_, fun j T hj => ?_, by omega⟩, w1, fun q q1 q2 => (f2.1 q q2).trans (f1.1 q q1), f2.2.trans f1.2⟩
  · have hrc : ∀ X, zrc ((zup h g (5, [.ref (g + 1), .int (nI ((nx + 7) % 8)), .int (nI H.length)])).1 g) 5 X = X := fun X => by rw [c0]; exact zrc_k
    rw [zc_133, zs_133_0, zs_133_1, zs_133_2, p1, zf_5_1, zs_133_5, zs_133_7, zs_133_8, zs_133_9, nI_78 p0, zs_133_10, zs_133_12, nI_mod8 _ (by omega), zs_133_13, p1, zp_5_1, zs_133_16, zs_133_17, zs_133_18, zup_at, zf_5_2, zs_133_21, zs_133_22, hsb, zs_133_23, zs_133_24, emax, zs_133_27, zup_at, zp_5_2, zup_up, zs_133_30, zs_133_31, zs_133_32, c0, zf_5_1, zs_133_35, hrc, d_135 c0 c1 (by omega), zbk_v, zts_s, zs_133_38 znw_u, zs_133_39, zs_133_40, zs_133_43, zs_133_44, zs_133_45, zSta_rc c2, e1, zbk_v, zts_n, zs_133_48]
  · obtain ⟨T, hT⟩ := p3 k hk
    exact ⟨T, zSta_fr (zSta_fr hT f1 (by omega)) f2 (by omega)⟩
  · have hj8 := (List.getElem?_eq_some_iff.mp hj).1
    have := p4 (j + 1) T hj
    rw [show ((nx + 7) % 8 + 7 - j) % 8 = (nx + 7 - (j + 1)) % 8 by omega]
    exact zSta_fr (zSta_fr this f1 (by omega)) f2 (by omega)
end ZDL

/-- a term's root -/
def yk : yT → Int32
  | .leaf => 0
  | .inner _ k _ _ _ => k
def yv : yT → Int32
  | .leaf => 0
  | .inner _ _ v _ _ => v
def yl : yT → yT
  | .leaf => .leaf
  | .inner _ _ _ l _ => l
def yr : yT → yT
  | .leaf => .leaf
  | .inner _ _ _ _ r => r
def ycn (v : Int32) : yT := ymk (nI 99) v .leaf .leaf
def ynu (t : yT) (c : Int32) : Bool := decide (yk t = nI 99) && decide (yv t = c)
def ysn (a : yT) : yT := if yk a = nI 99 then ycn (-(yv a)) else if yk a = nI 110 then yl a else ymk (nI 110) 0 a .leaf
def ysu (a b : yT) : yT := if ynu a 0 = true then b else if ynu b 0 = true then a else ymk (nI 43) 0 a b
def ysd (a b : yT) : yT := if ynu b 0 = true then a else if ynu a 0 = true then (if yk b = nI 110 then yl b else ymk (nI 110) 0 b .leaf) else if yeq a b = true then ycn 0 else ymk (nI 45) 0 a b
def ysm (a b : yT) : yT := if ynu a 0 = true then ycn 0 else if ynu b 0 = true then ycn 0 else if ynu a (nI 1) = true then b else if ynu b (nI 1) = true then a else ymk (nI 42) 0 a b
def ysp (k : Int32) (a b : yT) : yT := if yk a = nI 99 ∧ yk b = nI 99 then ycn (yop k (yv a) (yv b)) else if k = nI 43 then ysu a b else if k = nI 45 then ysd a b else ysm a b
def ysim : yT → yT
  | .leaf => .leaf
  | .inner _ k v l r => if k = nI 110 then ysn (ysim l) else if yis k = true then ysp k (ysim l) (ysim r) else ymk k v .leaf .leaf
theorem ygt_new {os : List yN} {nd : yN} (hl : os.length < 2 ^ 31) : ygt (ytm (os ++ [nd])) (nI os.length) = ymk nd.1 nd.2.1 (ygt (ytm os) nd.2.2.1) (ygt (ytm os) nd.2.2.2) := by
  rw [ygt_k hl, List.getD_eq_getElem?_getD, ytm_snoc, List.getElem?_append_right (by rw [ytm_l]; exact Nat.le_refl _), ytm_l, Nat.sub_self]
  rfl
theorem ych_snoc {os : List yN} {nd : yN} : ych (os ++ [nd]).length (nI os.length) := Or.inr ⟨os.length, by rw [List.length_append]; exact Nat.lt_succ_self _, rfl⟩
theorem ych_n {i : Nat} : ych i (-1) := Or.inl rfl
section ZDM
variable {sv : Nat → Value} {d : Nat} {h : zH} {o m : Nat} {os : List yN} {x : Int32}
theorem d_184g (ho : zTre h o m os) (hw : ywf os) (hx : ych os.length x) : zcall zP sv (d + 2) 184 [.ref o, .int x] h = some (.inl (some (.int (yk (ygt (ytm os) x)))), h) := by
  rcases hx with rfl | ⟨j, hj, rfl⟩
  · rw [d_184n ho, ygt_n]; rfl
  · obtain ⟨nd, hnd⟩ := ynd_ex hj
    rw [d_184 ho hnd, ygt_at hw hnd]; rfl
theorem d_185g (ho : zTre h o m os) (hw : ywf os) (hx : ych os.length x) : zcall zP sv (d + 2) 185 [.ref o, .int x] h = some (.inl (some (.int (yv (ygt (ytm os) x)))), h) := by
  rcases hx with rfl | ⟨j, hj, rfl⟩
  · obtain ⟨K, N, L, R, h0, hr, _⟩ := ho
    rw [zc_185, zs_185_0, zs_185_1, h0, zTc, zf_6_1, zs_185_4, zs_185_5, zRow_rc hr.2.1, d_165 hr.2.1, zbk_v, zts_s, zs_185_8, yg_n, ygt_n]
    rfl
  · obtain ⟨nd, hnd⟩ := ynd_ex hj
    rw [d_185 ho hnd, ygt_at hw hnd]; rfl
theorem d_186g (ho : zTre h o m os) (hw : ywf os) (hx : ych os.length x) (hk : yk (ygt (ytm os) x) = nI 110) : ∃ y, zcall zP sv (d + 2) 186 [.ref o, .int x] h = some (.inl (some (.int y)), h) ∧ ych os.length y ∧ ygt (ytm os) y = yl (ygt (ytm os) x) := by
  rcases hx with rfl | ⟨j, hj, rfl⟩
  · rw [ygt_n] at hk
    exact absurd hk (by decide +kernel)
  · obtain ⟨nd, hnd⟩ := ynd_ex hj
    exact ⟨nd.2.2.1, d_186 ho hnd, (ych_lt hw hnd).1, by rw [ygt_at hw hnd]; rfl⟩
theorem d_189g {c : Int32} (ho : zTre h o m os) (hw : ywf os) (hx : ych os.length x) : zcall zP sv (d + 3) 189 [.ref o, .int x, .int c] h = some (.inl (some (.int (yb (ynu (ygt (ytm os) x) c)))), h) := by
  unfold ynu
  rw [zc_189, zs_189_0, zs_189_1, zs_189_2, zTre_rc ho, d_184g ho hw hx, zbk_v, zts_s, zs_189_5, zs_189_7]
  by_cases h1 : yk (ygt (ytm os) x) = nI 99
  · rw [if_pos h1, zs_189_10, zs_189_11, zs_189_12, zTre_rc ho, d_185g ho hw hx, zbk_v, zts_s, zs_189_15, zs_189_16, decide_eq_true h1]
    by_cases h2 : yv (ygt (ytm os) x) = c
    · rw [if_pos h2, zs_189_19, zs_189_20, zs_189_24, decide_eq_true h2, zty_51, zgd_t]; rfl
    · rw [if_neg h2, zs_189_23, zs_189_24, decide_eq_false h2, zty_50, zgd_t]; rfl
  · rw [if_neg h1, zs_189_23, zs_189_24, decide_eq_false h1, zty_50, zgd_t]; rfl
end ZDM
/-- what one step of building leaves: at most one node more -/
def yRes (h : zH) (o : Nat) (os : List yN) (r : zR) (u : yT) : Prop := ∃ h' os' x, r = some (.inl (some (.int x)), h') ∧ zTre h' o 124 os' ∧ (∃ e, os' = os ++ e ∧ e.length ≤ 1) ∧ ywf os' ∧ ych os'.length x ∧ ygt (ytm os') x = u ∧ zfr o (o + 9) h h'
theorem yRes_same {h : zH} {o : Nat} {os : List yN} {r : zR} {u : yT} {x : Int32} (hr : r = some (.inl (some (.int x)), h)) (ho : zTre h o 124 os) (hw : ywf os) (hx : ych os.length x) (hu : ygt (ytm os) x = u) : yRes h o os r u := ⟨h, os, x, hr, ho, ⟨[], (List.append_nil _).symm, by decide⟩, hw, hx, hu, zfr_rfl⟩
theorem yRes_add {h : zH} {o : Nat} {os : List yN} {r : zR} {u : yT} {nd : yN} {h' : zH} (hr : r = some (.inl (some (.int (nI os.length))), h')) (ho : zTre h' o 124 (os ++ [nd])) (hf : zfr o (o + 9) h h') (hl : os.length < 124) (hw : ywf os) (h1 : ych os.length nd.2.2.1) (h2 : ych os.length nd.2.2.2) (hu : ymk nd.1 nd.2.1 (ygt (ytm os) nd.2.2.1) (ygt (ytm os) nd.2.2.2) = u) : yRes h o os r u := ⟨h', os ++ [nd], _, hr, ho, ⟨[nd], rfl, Nat.le_refl _⟩, ywf_snoc hw h1 h2 (by omega), ych_snoc, by rw [ygt_new (by omega), hu], hf⟩
section ZDN
variable {sv : Nat → Value} {d : Nat} {h : zH} {o : Nat} {os : List yN} {x y : Int32}
theorem d_97 (ho : zTre h o 124 os) (hw : ywf os) (hl : os.length < 124) (hx : ych os.length x) : yRes h o os (zcall zP sv (d + 4) 97 [.int x, .ref o] h) (ysn (ygt (ytm os) x)) := by
  unfold ysn
  by_cases h1 : yk (ygt (ytm os) x) = nI 99
  · rw [if_pos h1]
    obtain ⟨h', e, w, f⟩ := d_192 (sv := sv) (d := d) (x := -(yv (ygt (ytm os) x))) ho hl
    refine yRes_add (nd := (nI 99, -(yv (ygt (ytm os) x)), -1, -1)) ?_ w f hl hw ych_n ych_n (by rw [ygt_n]; rfl)
    have e84 : yop (nI 110) (yv (ygt (ytm os) x)) 0 = -(yv (ygt (ytm os) x)) := by unfold yop; rw [if_pos rfl]
    simp only [zc_97, zs_97_0, zs_97_1, zs_97_2, zs_97_5, zs_97_7, zs_97_10, zs_97_11, zs_97_13, zs_97_14, zs_97_15, zs_97_18, zs_97_19, zs_97_22, zs_97_25, zs_97_26, zs_97_27, zs_97_28, zs_97_31, zs_97_33, zs_97_36, zs_97_37, zs_97_38, zs_97_41, zs_97_44, zs_97_45, zs_97_46, zs_97_49, zTre_rc ho, d_184g ho hw hx, d_185g ho hw hx, if_pos h1, d_84, e84, e, zbk_v, zts_s]
  · rw [if_neg h1]
    by_cases h2 : yk (ygt (ytm os) x) = nI 110
    · rw [if_pos h2]
      obtain ⟨z, e, w1, w2⟩ := d_186g (sv := sv) (d := d + 1) ho hw hx h2
      refine yRes_same ?_ ho hw w1 w2
      simp only [zc_97, zs_97_0, zs_97_1, zs_97_2, zs_97_5, zs_97_7, zs_97_10, zs_97_11, zs_97_13, zs_97_14, zs_97_15, zs_97_18, zs_97_19, zs_97_22, zs_97_25, zs_97_26, zs_97_27, zs_97_28, zs_97_31, zs_97_33, zs_97_36, zs_97_37, zs_97_38, zs_97_41, zs_97_44, zs_97_45, zs_97_46, zs_97_49, zTre_rc ho, d_184g ho hw hx, if_neg h1, if_pos h2, e, zbk_v, zts_s]
    · rw [if_neg h2]
      obtain ⟨h', e, w, f⟩ := d_193 (sv := sv) (d := d) (x := x) ho hl
      refine yRes_add (nd := (nI 110, 0, x, -1)) ?_ w f hl hw hx ych_n (by rw [ygt_n])
      simp only [zc_97, zs_97_0, zs_97_1, zs_97_2, zs_97_5, zs_97_7, zs_97_10, zs_97_11, zs_97_13, zs_97_14, zs_97_15, zs_97_18, zs_97_19, zs_97_22, zs_97_25, zs_97_26, zs_97_27, zs_97_28, zs_97_31, zs_97_33, zs_97_36, zs_97_37, zs_97_38, zs_97_41, zs_97_44, zs_97_45, zs_97_46, zs_97_49, zTre_rc ho, d_184g ho hw hx, if_neg h1, if_neg h2, e, zbk_v, zts_s]
theorem d_98 (ho : zTre h o 124 os) (hw : ywf os) (hl : os.length < 124) (hx : ych os.length x) (hy : ych os.length y) : yRes h o os (zcall zP sv (d + 4) 98 [.int x, .int y, .ref o] h) (ysu (ygt (ytm os) x) (ygt (ytm os) y)) := by
  unfold ysu
  cases h1 : ynu (ygt (ytm os) x) 0 with
  | true =>
    rw [if_pos rfl]
    refine yRes_same ?_ ho hw hy rfl
    simp only [zc_98, zs_98_0, zs_98_1, zs_98_2, zs_98_3, zs_98_6, zs_98_9, zs_98_10, zs_98_11, zs_98_12, zs_98_13, zs_98_14, zs_98_17, zs_98_20, zs_98_21, zs_98_24, zs_98_25, zs_98_27, zs_98_28, zs_98_29, zs_98_32, zTre_rc ho, d_189g ho hw hx, h1, yb_t, nI_1e0, zbk_v, zts_s, ↓reduceIte]
  | false =>
    rw [if_neg (by decide)]
    cases h2 : ynu (ygt (ytm os) y) 0 with
    | true =>
      rw [if_pos rfl]
      refine yRes_same ?_ ho hw hx rfl
      simp only [zc_98, zs_98_0, zs_98_1, zs_98_2, zs_98_3, zs_98_6, zs_98_9, zs_98_10, zs_98_11, zs_98_12, zs_98_13, zs_98_14, zs_98_17, zs_98_20, zs_98_21, zs_98_24, zs_98_25, zs_98_27, zs_98_28, zs_98_29, zs_98_32, zTre_rc ho, d_189g ho hw hx, d_189g ho hw hy, h1, h2, yb_t, yb_f, nI_1e0, zbk_v, zts_s, ↓reduceIte]
    | false =>
      rw [if_neg (by decide)]
      obtain ⟨h', e, w, f⟩ := d_194 (sv := sv) (d := d) (k := nI 43) (x := x) (y := y) ho hl
      refine yRes_add (nd := (nI 43, 0, x, y)) ?_ w f hl hw hx hy rfl
      simp only [zc_98, zs_98_0, zs_98_1, zs_98_2, zs_98_3, zs_98_6, zs_98_9, zs_98_10, zs_98_11, zs_98_12, zs_98_13, zs_98_14, zs_98_17, zs_98_20, zs_98_21, zs_98_24, zs_98_25, zs_98_27, zs_98_28, zs_98_29, zs_98_32, zTre_rc ho, d_189g ho hw hx, d_189g ho hw hy, h1, h2, yb_f, e, zbk_v, zts_s, ↓reduceIte]
theorem d_99 (ho : zTre h o 124 os) (hw : ywf os) (hl : os.length < 124) (hx : ych os.length x) (hy : ych os.length y) (hdp : ydp (ygt (ytm os) x) ≤ 40) : yRes h o os (zcall zP sv (d + 44) 99 [.int x, .int y, .ref o] h) (ysd (ygt (ytm os) x) (ygt (ytm os) y)) := by
  unfold ysd
  cases h1 : ynu (ygt (ytm os) y) 0 with
  | true =>
    rw [if_pos rfl]
    refine yRes_same ?_ ho hw hx rfl
    simp only [zc_99, zs_99_0, zs_99_1, zs_99_2, zs_99_3, zs_99_6, zs_99_9, zs_99_10, zs_99_11, zs_99_12, zs_99_13, zs_99_14, zs_99_17, zs_99_20, zs_99_21, zs_99_22, zs_99_25, zs_99_27, zs_99_30, zs_99_31, zs_99_32, zs_99_35, zs_99_38, zs_99_39, zs_99_40, zs_99_43, zs_99_44, zs_99_45, zs_99_46, zs_99_47, zs_99_48, zs_99_49, zs_99_52, zs_99_55, zs_99_56, zs_99_57, zs_99_60, zs_99_61, zs_99_62, zs_99_64, zs_99_65, zs_99_66, zs_99_69, zTre_rc ho, d_189g ho hw hy, h1, yb_t, nI_1e0, zbk_v, zts_s, ↓reduceIte]
  | false =>
    rw [if_neg (by decide)]
    cases h2 : ynu (ygt (ytm os) x) 0 with
    | true =>
      rw [if_pos rfl]
      by_cases h3 : yk (ygt (ytm os) y) = nI 110
      · rw [if_pos h3]
        obtain ⟨z, e, w1, w2⟩ := d_186g (sv := sv) (d := d + 41) ho hw hy h3
        refine yRes_same ?_ ho hw w1 w2
        simp only [zc_99, zs_99_0, zs_99_1, zs_99_2, zs_99_3, zs_99_6, zs_99_9, zs_99_10, zs_99_11, zs_99_12, zs_99_13, zs_99_14, zs_99_17, zs_99_20, zs_99_21, zs_99_22, zs_99_25, zs_99_27, zs_99_30, zs_99_31, zs_99_32, zs_99_35, zs_99_38, zs_99_39, zs_99_40, zs_99_43, zs_99_44, zs_99_45, zs_99_46, zs_99_47, zs_99_48, zs_99_49, zs_99_52, zs_99_55, zs_99_56, zs_99_57, zs_99_60, zs_99_61, zs_99_62, zs_99_64, zs_99_65, zs_99_66, zs_99_69, zTre_rc ho, d_189g ho hw hx, d_189g ho hw hy, h1, h2, yb_t, yb_f, nI_1e0, d_184g ho hw hy, if_pos h3, e, zbk_v, zts_s, ↓reduceIte]
      · rw [if_neg h3]
        obtain ⟨h', e, w, f⟩ := d_193 (sv := sv) (d := d + 40) (x := y) ho hl
        refine yRes_add (nd := (nI 110, 0, y, -1)) ?_ w f hl hw hy ych_n (by rw [ygt_n])
        simp only [zc_99, zs_99_0, zs_99_1, zs_99_2, zs_99_3, zs_99_6, zs_99_9, zs_99_10, zs_99_11, zs_99_12, zs_99_13, zs_99_14, zs_99_17, zs_99_20, zs_99_21, zs_99_22, zs_99_25, zs_99_27, zs_99_30, zs_99_31, zs_99_32, zs_99_35, zs_99_38, zs_99_39, zs_99_40, zs_99_43, zs_99_44, zs_99_45, zs_99_46, zs_99_47, zs_99_48, zs_99_49, zs_99_52, zs_99_55, zs_99_56, zs_99_57, zs_99_60, zs_99_61, zs_99_62, zs_99_64, zs_99_65, zs_99_66, zs_99_69, zTre_rc ho, d_189g ho hw hx, d_189g ho hw hy, h1, h2, yb_t, yb_f, nI_1e0, d_184g ho hw hy, if_neg h3, e, zbk_v, zts_s, ↓reduceIte]
    | false =>
      rw [if_neg (by decide)]
      have e5 := d_85 (sv := sv) hw hw ho ho (ygt (ytm os) x) (ygt (ytm os) y) x y (d + 43) 1 hx hy rfl rfl (by omega) (by omega)
      cases h4 : yeq (ygt (ytm os) x) (ygt (ytm os) y) with
      | true =>
        rw [h4] at e5
        rw [if_pos rfl]
        obtain ⟨h', e, w, f⟩ := d_192 (sv := sv) (d := d + 40) (x := 0) ho hl
        refine yRes_add (nd := (nI 99, 0, -1, -1)) ?_ w f hl hw ych_n ych_n (by rw [ygt_n]; rfl)
        simp only [zc_99, zs_99_0, zs_99_1, zs_99_2, zs_99_3, zs_99_6, zs_99_9, zs_99_10, zs_99_11, zs_99_12, zs_99_13, zs_99_14, zs_99_17, zs_99_20, zs_99_21, zs_99_22, zs_99_25, zs_99_27, zs_99_30, zs_99_31, zs_99_32, zs_99_35, zs_99_38, zs_99_39, zs_99_40, zs_99_43, zs_99_44, zs_99_45, zs_99_46, zs_99_47, zs_99_48, zs_99_49, zs_99_52, zs_99_55, zs_99_56, zs_99_57, zs_99_60, zs_99_61, zs_99_62, zs_99_64, zs_99_65, zs_99_66, zs_99_69, zTre_rc ho, d_189g ho hw hx, d_189g ho hw hy, h1, h2, yb_t, yb_f, nI_1e0, e5, e, zbk_v, zts_s, ↓reduceIte]
      | false =>
        rw [h4] at e5
        rw [if_neg (by decide)]
        obtain ⟨h', e, w, f⟩ := d_194 (sv := sv) (d := d + 40) (k := nI 45) (x := x) (y := y) ho hl
        refine yRes_add (nd := (nI 45, 0, x, y)) ?_ w f hl hw hx hy rfl
        simp only [zc_99, zs_99_0, zs_99_1, zs_99_2, zs_99_3, zs_99_6, zs_99_9, zs_99_10, zs_99_11, zs_99_12, zs_99_13, zs_99_14, zs_99_17, zs_99_20, zs_99_21, zs_99_22, zs_99_25, zs_99_27, zs_99_30, zs_99_31, zs_99_32, zs_99_35, zs_99_38, zs_99_39, zs_99_40, zs_99_43, zs_99_44, zs_99_45, zs_99_46, zs_99_47, zs_99_48, zs_99_49, zs_99_52, zs_99_55, zs_99_56, zs_99_57, zs_99_60, zs_99_61, zs_99_62, zs_99_64, zs_99_65, zs_99_66, zs_99_69, zTre_rc ho, d_189g ho hw hx, d_189g ho hw hy, h1, h2, yb_f, e5, e, zbk_v, zts_s, ↓reduceIte]
theorem d_100 (ho : zTre h o 124 os) (hw : ywf os) (hl : os.length < 124) (hx : ych os.length x) (hy : ych os.length y) : yRes h o os (zcall zP sv (d + 4) 100 [.int x, .int y, .ref o] h) (ysm (ygt (ytm os) x) (ygt (ytm os) y)) := by
  unfold ysm
  cases h1 : ynu (ygt (ytm os) x) 0 with
  | true =>
    rw [if_pos rfl]
    obtain ⟨h', e, w, f⟩ := d_192 (sv := sv) (d := d) (x := 0) ho hl
    refine yRes_add (nd := (nI 99, 0, -1, -1)) ?_ w f hl hw ych_n ych_n (by rw [ygt_n]; rfl)
    simp only [zc_100, zs_100_0, zs_100_1, zs_100_2, zs_100_3, zs_100_6, zs_100_9, zs_100_10, zs_100_11, zs_100_12, zs_100_15, zs_100_18, zs_100_19, zs_100_20, zs_100_23, zs_100_24, zs_100_25, zs_100_26, zs_100_27, zs_100_30, zs_100_33, zs_100_34, zs_100_35, zs_100_36, zs_100_37, zs_100_38, zs_100_41, zs_100_44, zs_100_45, zs_100_48, zs_100_49, zs_100_51, zs_100_52, zs_100_53, zs_100_56, zTre_rc ho, d_189g ho hw hx, h1, yb_t, nI_1e0, e, zbk_v, zts_s, ↓reduceIte]
  | false =>
    rw [if_neg (by decide)]
    cases h2 : ynu (ygt (ytm os) y) 0 with
    | true =>
      rw [if_pos rfl]
      obtain ⟨h', e, w, f⟩ := d_192 (sv := sv) (d := d) (x := 0) ho hl
      refine yRes_add (nd := (nI 99, 0, -1, -1)) ?_ w f hl hw ych_n ych_n (by rw [ygt_n]; rfl)
      simp only [zc_100, zs_100_0, zs_100_1, zs_100_2, zs_100_3, zs_100_6, zs_100_9, zs_100_10, zs_100_11, zs_100_12, zs_100_15, zs_100_18, zs_100_19, zs_100_20, zs_100_23, zs_100_24, zs_100_25, zs_100_26, zs_100_27, zs_100_30, zs_100_33, zs_100_34, zs_100_35, zs_100_36, zs_100_37, zs_100_38, zs_100_41, zs_100_44, zs_100_45, zs_100_48, zs_100_49, zs_100_51, zs_100_52, zs_100_53, zs_100_56, zTre_rc ho, d_189g ho hw hx, d_189g ho hw hy, h1, h2, yb_t, yb_f, nI_1e0, e, zbk_v, zts_s, ↓reduceIte]
    | false =>
      rw [if_neg (by decide)]
      cases h3 : ynu (ygt (ytm os) x) (nI 1) with
      | true =>
        rw [if_pos rfl]
        refine yRes_same ?_ ho hw hy rfl
        simp only [zc_100, zs_100_0, zs_100_1, zs_100_2, zs_100_3, zs_100_6, zs_100_9, zs_100_10, zs_100_11, zs_100_12, zs_100_15, zs_100_18, zs_100_19, zs_100_20, zs_100_23, zs_100_24, zs_100_25, zs_100_26, zs_100_27, zs_100_30, zs_100_33, zs_100_34, zs_100_35, zs_100_36, zs_100_37, zs_100_38, zs_100_41, zs_100_44, zs_100_45, zs_100_48, zs_100_49, zs_100_51, zs_100_52, zs_100_53, zs_100_56, zTre_rc ho, d_189g ho hw hx, d_189g ho hw hy, h1, h2, h3, yb_t, yb_f, nI_1e0, zbk_v, zts_s, ↓reduceIte]
      | false =>
        rw [if_neg (by decide)]
        cases h4 : ynu (ygt (ytm os) y) (nI 1) with
        | true =>
          rw [if_pos rfl]
          refine yRes_same ?_ ho hw hx rfl
          simp only [zc_100, zs_100_0, zs_100_1, zs_100_2, zs_100_3, zs_100_6, zs_100_9, zs_100_10, zs_100_11, zs_100_12, zs_100_15, zs_100_18, zs_100_19, zs_100_20, zs_100_23, zs_100_24, zs_100_25, zs_100_26, zs_100_27, zs_100_30, zs_100_33, zs_100_34, zs_100_35, zs_100_36, zs_100_37, zs_100_38, zs_100_41, zs_100_44, zs_100_45, zs_100_48, zs_100_49, zs_100_51, zs_100_52, zs_100_53, zs_100_56, zTre_rc ho, d_189g ho hw hx, d_189g ho hw hy, h1, h2, h3, h4, yb_t, yb_f, nI_1e0, zbk_v, zts_s, ↓reduceIte]
        | false =>
          rw [if_neg (by decide)]
          obtain ⟨h', e, w, f⟩ := d_194 (sv := sv) (d := d) (k := nI 42) (x := x) (y := y) ho hl
          refine yRes_add (nd := (nI 42, 0, x, y)) ?_ w f hl hw hx hy rfl
          simp only [zc_100, zs_100_0, zs_100_1, zs_100_2, zs_100_3, zs_100_6, zs_100_9, zs_100_10, zs_100_11, zs_100_12, zs_100_15, zs_100_18, zs_100_19, zs_100_20, zs_100_23, zs_100_24, zs_100_25, zs_100_26, zs_100_27, zs_100_30, zs_100_33, zs_100_34, zs_100_35, zs_100_36, zs_100_37, zs_100_38, zs_100_41, zs_100_44, zs_100_45, zs_100_48, zs_100_49, zs_100_51, zs_100_52, zs_100_53, zs_100_56, zTre_rc ho, d_189g ho hw hx, d_189g ho hw hy, h1, h2, h3, h4, yb_f, e, zbk_v, zts_s, ↓reduceIte]
end ZDN

def zAl (h : zH) (al : Nat) (P : List Int32) : Prop := h.1 al = (9, [.ref (al + 1)]) ∧ zRow h (al + 1) P ∧ P.length = 124
theorem zAl_rc {h : zH} {al : Nat} {P : List Int32} {X : zR} (ha : zAl h al P) : zrc (h.1 al) 9 X = X := by
  rw [ha.1]
  exact zrc_k
theorem zAl_fr {h h' : zH} {lo hi al : Nat} {P : List Int32} (ha : zAl h al P) (hf : zfr lo hi h h') (hq : al + 3 ≤ lo ∨ hi ≤ al) : zAl h' al P := ⟨by rw [hf.1 al (by omega), ha.1], zRow_fr ha.2.1 hf (by omega), ha.2.2⟩
theorem zAl_set {h : zH} {al i : Nat} {P : List Int32} {x : Int32} (ha : zAl h al P) (hi : i < 2 ^ 31) : zAl (zup h (al + 1 + 1) (20, (ys P (nI i) x).map Value.int)) al (P.set i x) := by
  rw [ys_k hi]
  exact ⟨by rw [zup_ne (by omega), ha.1], zRow_new ha.2.1 (by rw [List.length_set]), by rw [List.length_set]; exact ha.2.2⟩
/-- the places of the first i nodes: what the map makes of each -/
def yP2 (φ : yT → yT) (ns os : List yN) (P : List Int32) (i : Nat) : Prop := ∀ (j : Nat) (t : yT), j < i → (ytm ns)[j]? = some t → ∃ x, P[j]? = some x ∧ ych os.length x ∧ ygt (ytm os) x = φ t
theorem yP2_0 {φ : yT → yT} {ns os : List yN} {P : List Int32} : yP2 φ ns os P 0 := fun j t hj => absurd hj (Nat.not_lt_zero j)
theorem yP2_app {φ : yT → yT} {ns os e : List yN} {P : List Int32} {i : Nat} (hp : yP2 φ ns os P i) (hl : os.length < 2 ^ 31) : yP2 φ ns (os ++ e) P i := fun j t hj ht => by
  obtain ⟨x, h1, h2, h3⟩ := hp j t hj ht
  exact ⟨x, h1, ych_mono h2 (by rw [List.length_append]; omega), by rw [ygt_pre hl h2, h3]⟩
theorem yP2_s {φ : yT → yT} {ns os : List yN} {P : List Int32} {i : Nat} {x : Int32} {t : yT} (hp : yP2 φ ns os P i) (ht : (ytm ns)[i]? = some t) (hi : i < P.length) (hx : ych os.length x) (hu : ygt (ytm os) x = φ t) : yP2 φ ns os (P.set i x) (i + 1) := fun j u hj hju => by
  by_cases h1 : j = i
  · subst h1
    rw [ht] at hju
    injection hju with hju
    subst hju
    exact ⟨x, by rw [List.getElem?_set_self hi], hx, hu⟩
  · rw [List.getElem?_set_ne (Ne.symm h1)]
    exact hp j u (by omega) hju
section ZDO
variable {sv : Nat → Value} {d : Nat} {h : zH}
theorem d_91 {φ : yT → yT} {ns os : List yN} {P : List Int32} {al i : Nat} {x : Int32} (ha : zAl h al P) (hp : yP2 φ ns os P i) (hx : ych i x) (hi : i ≤ ns.length) (hl : ns.length < 2 ^ 31) (h0 : φ .leaf = .leaf) : ∃ y, zcall zP sv (d + 2) 91 [.ref al, .int x] h = some (.inl (some (.int y)), h) ∧ ych os.length y ∧ ygt (ytm os) y = φ (ygt (ytm ns) x) := by
  rcases hx with rfl | ⟨j, hj, rfl⟩
  · refine ⟨-1, ?_, ych_n, by rw [ygt_n, ygt_n, h0]⟩
    simp only [zc_91, zs_91_0, zs_91_1, zs_91_2, zs_91_5, zs_91_6, zs_91_9, zs_91_10, zs_91_13, zs_91_14, zs_91_17, nI_m1e, ↓reduceIte]
  · have e1 : (ytm ns)[j]? = some ((ytm ns)[j]'(by rw [ytm_l]; omega)) := List.getElem?_eq_getElem _
    obtain ⟨y, p1, p2, p3⟩ := hp j _ hj e1
    refine ⟨y, ?_, p2, ?_⟩
    · have g1 : ¬ nI j = -1 := nI_nm1 (by omega)
      simp only [zc_91, zs_91_0, zs_91_1, zs_91_2, zs_91_5, zs_91_6, zs_91_9, zs_91_10, zs_91_13, zs_91_14, zs_91_17, if_neg g1, ha.1, zrc_9, zf_9_0, zp_9_0, zp_9_0n, zRow_rc ha.2.1, d_165 ha.2.1, yg_e (show j < 2 ^ 31 by omega) p1, zbk_v, zts_s]
    · rw [p3, ygt_k (by omega), List.getD_eq_getElem?_getD, e1]
      rfl
theorem ysim_mk {k v : Int32} {l r : yT} : ysim (ymk k v l r) = if k = nI 110 then ysn (ysim l) else if yis k = true then ysp k (ysim l) (ysim r) else ymk k v .leaf .leaf := rfl
theorem yis_43 : yis (nI 43) = true := by decide +kernel
theorem yis_45 : yis (nI 45) = true := by decide +kernel
theorem yis_42 : yis (nI 42) = true := by decide +kernel
theorem yis_110 : yis (nI 110) = false := by decide +kernel
theorem d_96 {f m o al i : Nat} {ns os : List yN} {P : List Int32} {nd : yN} (hf : zTre h f m ns) (hwf : ywf ns) (hnd : ns[i]? = some nd) (ha : zAl h al P) (hp : yP2 ysim ns os P i) (ho : zTre h o 124 os) (hw : ywf os) (hl : os.length < 124) (hdp : ∀ x, ych i x → ydp (ysim (ygt (ytm ns) x)) ≤ 40) : yRes h o os (zcall zP sv (d + 45) 96 [.ref al, .ref f, .int (nI i), .ref o] h) (ysim (ymk nd.1 nd.2.1 (ygt (ytm ns) nd.2.2.1) (ygt (ytm ns) nd.2.2.2))) := by
  have hi := (List.getElem?_eq_some_iff.mp hnd).1
  have hc := hwf.2 i nd hnd
  obtain ⟨x, ex, x1, x2⟩ := d_91 (sv := sv) (d := d + 42) ha hp hc.1 (by omega) hwf.1 rfl
  obtain ⟨y, ey, y1, y2⟩ := d_91 (sv := sv) (d := d + 42) ha hp hc.2 (by omega) hwf.1 rfl
  rw [ysim_mk, ← x2, ← y2]
  by_cases h1 : nd.1 = nI 110
  · rw [if_pos h1]
    obtain ⟨h', os', z, e, w⟩ := d_97 (sv := sv) (d := d + 40) ho hw hl x1
    refine ⟨h', os', z, ?_, w⟩
    simp (disch := exact znw_u) only [zc_96, zs_96_0, zs_96_1, zs_96_2, zs_96_5, zs_96_7, zs_96_8, zs_96_9, zs_96_10, zs_96_13, zs_96_16, zs_96_18, zs_96_19, zs_96_20, zs_96_21, zs_96_24, zs_96_27, zs_96_29, zs_96_31, zs_96_33, zs_96_36, zs_96_38, zs_96_39, zs_96_42, zs_96_43, zs_96_45, zs_96_48, zs_96_51, zs_96_52, zs_96_54, zs_96_55, zs_96_56, zs_96_59, zs_96_60, zs_96_61, zs_96_64, zs_96_65, zs_96_66, zs_96_68, zs_96_71, zs_96_73, zs_96_76, zs_96_77, zs_96_79, zs_96_82, zs_96_84, zs_96_87, zs_96_88, zs_96_90, zs_96_91, zs_96_93, zs_96_96, zs_96_97, zs_96_99, zs_96_102, zs_96_105, zs_96_108, zs_96_109, zs_96_111, zs_96_113, zs_96_116, zs_96_118, zs_96_120, zs_96_121, zs_96_124, zs_96_125, zs_96_127, zs_96_129, zs_96_132, zs_96_134, zs_96_136, zs_96_137, zs_96_140, zs_96_143, zs_96_145, zs_96_147, zs_96_148, zs_96_151, zTre_rc hf, zAl_rc ha, d_184 hf hnd, d_186 hf hnd, d_187 hf hnd, ex, ey, if_pos h1, e, zbk_v, zts_s]
  · rw [if_neg h1]
    cases h2 : yis nd.1 with
    | false =>
      rw [if_neg (by decide)]
      obtain ⟨h', e, w, f1⟩ := d_191 (sv := sv) (d := d + 42) (k := nd.1) (n := nd.2.1) (l := -1) (r := -1) ho hl
      refine yRes_add (nd := (nd.1, nd.2.1, -1, -1)) ?_ w f1 hl hw ych_n ych_n (by rw [ygt_n])
      simp (disch := exact znw_u) only [zc_96, zs_96_0, zs_96_1, zs_96_2, zs_96_5, zs_96_7, zs_96_8, zs_96_9, zs_96_10, zs_96_13, zs_96_16, zs_96_18, zs_96_19, zs_96_20, zs_96_21, zs_96_24, zs_96_27, zs_96_29, zs_96_31, zs_96_33, zs_96_36, zs_96_38, zs_96_39, zs_96_42, zs_96_43, zs_96_45, zs_96_48, zs_96_51, zs_96_52, zs_96_54, zs_96_55, zs_96_56, zs_96_59, zs_96_60, zs_96_61, zs_96_64, zs_96_65, zs_96_66, zs_96_68, zs_96_71, zs_96_73, zs_96_76, zs_96_77, zs_96_79, zs_96_82, zs_96_84, zs_96_87, zs_96_88, zs_96_90, zs_96_91, zs_96_93, zs_96_96, zs_96_97, zs_96_99, zs_96_102, zs_96_105, zs_96_108, zs_96_109, zs_96_111, zs_96_113, zs_96_116, zs_96_118, zs_96_120, zs_96_121, zs_96_124, zs_96_125, zs_96_127, zs_96_129, zs_96_132, zs_96_134, zs_96_136, zs_96_137, zs_96_140, zs_96_143, zs_96_145, zs_96_147, zs_96_148, zs_96_151, zTre_rc hf, zTre_rc ho, zAl_rc ha, d_184 hf hnd, d_185 hf hnd, d_186 hf hnd, d_187 hf hnd, ex, ey, if_neg h1, d_83, h2, yb_f, e, zbk_v, zts_s, ↓reduceIte]
    | true =>
      rw [if_pos rfl]
      unfold ysp
      by_cases h3 : yk (ygt (ytm os) x) = nI 99 ∧ yk (ygt (ytm os) y) = nI 99
      · rw [if_pos h3]
        obtain ⟨h', e, w, f1⟩ := d_192 (sv := sv) (d := d + 41) (x := yop nd.1 (yv (ygt (ytm os) x)) (yv (ygt (ytm os) y))) ho hl
        refine yRes_add (nd := (nI 99, yop nd.1 (yv (ygt (ytm os) x)) (yv (ygt (ytm os) y)), -1, -1)) ?_ w f1 hl hw ych_n ych_n (by rw [ygt_n]; rfl)
        simp (disch := exact znw_u) only [zc_96, zs_96_0, zs_96_1, zs_96_2, zs_96_5, zs_96_7, zs_96_8, zs_96_9, zs_96_10, zs_96_13, zs_96_16, zs_96_18, zs_96_19, zs_96_20, zs_96_21, zs_96_24, zs_96_27, zs_96_29, zs_96_31, zs_96_33, zs_96_36, zs_96_38, zs_96_39, zs_96_42, zs_96_43, zs_96_45, zs_96_48, zs_96_51, zs_96_52, zs_96_54, zs_96_55, zs_96_56, zs_96_59, zs_96_60, zs_96_61, zs_96_64, zs_96_65, zs_96_66, zs_96_68, zs_96_71, zs_96_73, zs_96_76, zs_96_77, zs_96_79, zs_96_82, zs_96_84, zs_96_87, zs_96_88, zs_96_90, zs_96_91, zs_96_93, zs_96_96, zs_96_97, zs_96_99, zs_96_102, zs_96_105, zs_96_108, zs_96_109, zs_96_111, zs_96_113, zs_96_116, zs_96_118, zs_96_120, zs_96_121, zs_96_124, zs_96_125, zs_96_127, zs_96_129, zs_96_132, zs_96_134, zs_96_136, zs_96_137, zs_96_140, zs_96_143, zs_96_145, zs_96_147, zs_96_148, zs_96_151, zTre_rc hf, zTre_rc ho, zAl_rc ha, d_184 hf hnd, d_186 hf hnd, d_187 hf hnd, ex, ey, if_neg h1, d_83, h2, yb_t, nI_1e0, d_184g ho hw x1, d_184g ho hw y1, if_pos h3.1, if_pos h3.2, d_185g ho hw x1, d_185g ho hw y1, d_84, e, zbk_v, zts_s, ↓reduceIte]
      · rw [if_neg h3]
        have e0 : zcall zP sv (d + 45) 96 [.ref al, .ref f, .int (nI i), .ref o] h = zrun zP sv (zcall zP sv (d + 44)) 96 109 [.val (.ref al), .val (.ref f), .val (.int (nI i)), .val (.ref o), .val (.int nd.1), .val (.int x), .val (.int y)] [] h := by
          by_cases h4 : yk (ygt (ytm os) x) = nI 99
          · have h5 : ¬ yk (ygt (ytm os) y) = nI 99 := fun h6 => h3 ⟨h4, h6⟩
            simp (disch := exact znw_u) only [zc_96, zs_96_0, zs_96_1, zs_96_2, zs_96_5, zs_96_7, zs_96_8, zs_96_9, zs_96_10, zs_96_13, zs_96_16, zs_96_18, zs_96_19, zs_96_20, zs_96_21, zs_96_24, zs_96_27, zs_96_29, zs_96_31, zs_96_33, zs_96_36, zs_96_38, zs_96_39, zs_96_42, zs_96_43, zs_96_45, zs_96_48, zs_96_51, zs_96_52, zs_96_54, zs_96_55, zs_96_56, zs_96_59, zs_96_60, zs_96_61, zs_96_64, zs_96_65, zs_96_66, zs_96_68, zs_96_71, zs_96_73, zs_96_76, zs_96_77, zs_96_79, zs_96_82, zs_96_84, zs_96_87, zs_96_88, zs_96_90, zs_96_91, zs_96_93, zs_96_96, zs_96_97, zs_96_99, zs_96_102, zs_96_105, zs_96_108, zs_96_111, zs_96_113, zs_96_116, zs_96_118, zs_96_120, zs_96_121, zs_96_124, zs_96_125, zs_96_127, zs_96_129, zs_96_132, zs_96_134, zs_96_136, zs_96_137, zs_96_140, zs_96_143, zs_96_145, zs_96_147, zs_96_148, zs_96_151, zTre_rc hf, zTre_rc ho, zAl_rc ha, d_184 hf hnd, d_186 hf hnd, d_187 hf hnd, ex, ey, if_neg h1, d_83, h2, yb_t, nI_1e0, d_184g ho hw x1, d_184g ho hw y1, if_pos h4, if_neg h5, zbk_v, zts_s, ↓reduceIte]
          · simp (disch := exact znw_u) only [zc_96, zs_96_0, zs_96_1, zs_96_2, zs_96_5, zs_96_7, zs_96_8, zs_96_9, zs_96_10, zs_96_13, zs_96_16, zs_96_18, zs_96_19, zs_96_20, zs_96_21, zs_96_24, zs_96_27, zs_96_29, zs_96_31, zs_96_33, zs_96_36, zs_96_38, zs_96_39, zs_96_42, zs_96_43, zs_96_45, zs_96_48, zs_96_51, zs_96_52, zs_96_54, zs_96_55, zs_96_56, zs_96_59, zs_96_60, zs_96_61, zs_96_64, zs_96_65, zs_96_66, zs_96_68, zs_96_71, zs_96_73, zs_96_76, zs_96_77, zs_96_79, zs_96_82, zs_96_84, zs_96_87, zs_96_88, zs_96_90, zs_96_91, zs_96_93, zs_96_96, zs_96_97, zs_96_99, zs_96_102, zs_96_105, zs_96_108, zs_96_111, zs_96_113, zs_96_116, zs_96_118, zs_96_120, zs_96_121, zs_96_124, zs_96_125, zs_96_127, zs_96_129, zs_96_132, zs_96_134, zs_96_136, zs_96_137, zs_96_140, zs_96_143, zs_96_145, zs_96_147, zs_96_148, zs_96_151, zTre_rc hf, zTre_rc ho, zAl_rc ha, d_184 hf hnd, d_186 hf hnd, d_187 hf hnd, ex, ey, if_neg h1, d_83, h2, yb_t, nI_1e0, d_184g ho hw x1, if_neg h4, zbk_v, zts_s, ↓reduceIte]
        rw [e0]
        by_cases h4 : nd.1 = nI 43
        · rw [if_pos h4]
          obtain ⟨h', os', z, e, w⟩ := d_98 (sv := sv) (d := d + 40) ho hw hl x1 y1
          refine ⟨h', os', z, ?_, w⟩
          simp (disch := exact znw_u) only [zs_96_0, zs_96_1, zs_96_2, zs_96_5, zs_96_7, zs_96_8, zs_96_9, zs_96_10, zs_96_13, zs_96_16, zs_96_18, zs_96_19, zs_96_20, zs_96_21, zs_96_24, zs_96_27, zs_96_29, zs_96_31, zs_96_33, zs_96_36, zs_96_38, zs_96_39, zs_96_42, zs_96_43, zs_96_45, zs_96_48, zs_96_51, zs_96_52, zs_96_54, zs_96_55, zs_96_56, zs_96_59, zs_96_60, zs_96_61, zs_96_64, zs_96_65, zs_96_66, zs_96_68, zs_96_71, zs_96_73, zs_96_76, zs_96_77, zs_96_79, zs_96_82, zs_96_84, zs_96_87, zs_96_88, zs_96_90, zs_96_91, zs_96_93, zs_96_96, zs_96_97, zs_96_99, zs_96_102, zs_96_105, zs_96_108, zs_96_109, zs_96_111, zs_96_113, zs_96_116, zs_96_118, zs_96_120, zs_96_121, zs_96_124, zs_96_125, zs_96_127, zs_96_129, zs_96_132, zs_96_134, zs_96_136, zs_96_137, zs_96_140, zs_96_143, zs_96_145, zs_96_147, zs_96_148, zs_96_151, if_pos h4, e, zbk_v, zts_s]
        · rw [if_neg h4]
          by_cases h5 : nd.1 = nI 45
          · rw [if_pos h5]
            obtain ⟨h', os', z, e, w⟩ := d_99 (sv := sv) (d := d) ho hw hl x1 y1 (by rw [x2]; exact hdp _ hc.1)
            refine ⟨h', os', z, ?_, w⟩
            simp (disch := exact znw_u) only [zs_96_0, zs_96_1, zs_96_2, zs_96_5, zs_96_7, zs_96_8, zs_96_9, zs_96_10, zs_96_13, zs_96_16, zs_96_18, zs_96_19, zs_96_20, zs_96_21, zs_96_24, zs_96_27, zs_96_29, zs_96_31, zs_96_33, zs_96_36, zs_96_38, zs_96_39, zs_96_42, zs_96_43, zs_96_45, zs_96_48, zs_96_51, zs_96_52, zs_96_54, zs_96_55, zs_96_56, zs_96_59, zs_96_60, zs_96_61, zs_96_64, zs_96_65, zs_96_66, zs_96_68, zs_96_71, zs_96_73, zs_96_76, zs_96_77, zs_96_79, zs_96_82, zs_96_84, zs_96_87, zs_96_88, zs_96_90, zs_96_91, zs_96_93, zs_96_96, zs_96_97, zs_96_99, zs_96_102, zs_96_105, zs_96_108, zs_96_109, zs_96_111, zs_96_113, zs_96_116, zs_96_118, zs_96_120, zs_96_121, zs_96_124, zs_96_125, zs_96_127, zs_96_129, zs_96_132, zs_96_134, zs_96_136, zs_96_137, zs_96_140, zs_96_143, zs_96_145, zs_96_147, zs_96_148, zs_96_151, if_neg h4, if_pos h5, e, zbk_v, zts_s]
          · rw [if_neg h5]
            obtain ⟨h', os', z, e, w⟩ := d_100 (sv := sv) (d := d + 40) ho hw hl x1 y1
            refine ⟨h', os', z, ?_, w⟩
            simp (disch := exact znw_u) only [zs_96_0, zs_96_1, zs_96_2, zs_96_5, zs_96_7, zs_96_8, zs_96_9, zs_96_10, zs_96_13, zs_96_16, zs_96_18, zs_96_19, zs_96_20, zs_96_21, zs_96_24, zs_96_27, zs_96_29, zs_96_31, zs_96_33, zs_96_36, zs_96_38, zs_96_39, zs_96_42, zs_96_43, zs_96_45, zs_96_48, zs_96_51, zs_96_52, zs_96_54, zs_96_55, zs_96_56, zs_96_59, zs_96_60, zs_96_61, zs_96_64, zs_96_65, zs_96_66, zs_96_68, zs_96_71, zs_96_73, zs_96_76, zs_96_77, zs_96_79, zs_96_82, zs_96_84, zs_96_87, zs_96_88, zs_96_90, zs_96_91, zs_96_93, zs_96_96, zs_96_97, zs_96_99, zs_96_102, zs_96_105, zs_96_108, zs_96_109, zs_96_111, zs_96_113, zs_96_116, zs_96_118, zs_96_120, zs_96_121, zs_96_124, zs_96_125, zs_96_127, zs_96_129, zs_96_132, zs_96_134, zs_96_136, zs_96_137, zs_96_140, zs_96_143, zs_96_145, zs_96_147, zs_96_148, zs_96_151, if_neg h4, if_neg h5, e, zbk_v, zts_s]
end ZDO

/-- the same cells on a range -/
def zcg (lo hi : Nat) (h h' : zH) : Prop := ∀ q, lo ≤ q → q < hi → h'.1 q = h.1 q
theorem zcg_fr {lo hi a b : Nat} {h h' : zH} (hf : zfr a b h h') (hq : hi ≤ a ∨ b ≤ lo) : zcg lo hi h h' := fun q h1 h2 => hf.1 q (by omega)
theorem zcg_tr {lo hi : Nat} {h h' h'' : zH} (h1 : zcg lo hi h h') (h2 : zcg lo hi h' h'') : zcg lo hi h h'' := fun q a b => (h2 q a b).trans (h1 q a b)
theorem zcg_mono {lo hi lo' hi' : Nat} {h h' : zH} (h1 : zcg lo hi h h') (ha : lo ≤ lo') (hb : hi' ≤ hi) : zcg lo' hi' h h' := fun q a b => h1 q (by omega) (by omega)
theorem zRow_cg {h h' : zH} {r : Nat} {A : List Int32} (hr : zRow h r A) (hf : zcg r (r + 2) h h') : zRow h' r A := ⟨by rw [hf r (by omega) (by omega), hr.1], by rw [hf (r + 1) (by omega) (by omega), hr.2.1], hr.2.2⟩
theorem zTre_cg {h h' : zH} {t m : Nat} {ns : List yN} (ht : zTre h t m ns) (hf : zcg t (t + 9) h h') : zTre h' t m ns := by
  obtain ⟨K, N, L, R, h0, ⟨h1, h2, h3, h4⟩, h5⟩ := ht
  exact ⟨K, N, L, R, by rw [hf t (by omega) (by omega), h0], ⟨zRow_cg h1 (zcg_mono hf (by omega) (by omega)), zRow_cg h2 (zcg_mono hf (by omega) (by omega)), zRow_cg h3 (zcg_mono hf (by omega) (by omega)), zRow_cg h4 (zcg_mono hf (by omega) (by omega))⟩, h5⟩
theorem zGau_cg {h h' : zH} {g : Nat} {A B C : List Int32} (hg : zGau h g A B C) (hf : zcg g (g + 7) h h') : zGau h' g A B C := ⟨by rw [hf g (by omega) (by omega), hg.1], zRow_cg hg.2.1 (zcg_mono hf (by omega) (by omega)), zRow_cg hg.2.2.1 (zcg_mono hf (by omega) (by omega)), zRow_cg hg.2.2.2.1 (zcg_mono hf (by omega) (by omega)), hg.2.2.2.2⟩
theorem zAl_cg {h h' : zH} {al : Nat} {P : List Int32} (ha : zAl h al P) (hf : zcg al (al + 3) h h') : zAl h' al P := ⟨by rw [hf al (by omega) (by omega), ha.1], zRow_cg ha.2.1 (zcg_mono hf (by omega) (by omega)), ha.2.2⟩
theorem zSta_cg {h h' : zH} {s : Nat} {S : yS} (hs : zSta h s S) (hf : zcg s (s + 4) h h') : zSta h' s S := by
  obtain ⟨h1, ⟨F, h2, h3⟩, h4, h5⟩ := hs
  exact ⟨by rw [hf s (by omega) (by omega), h1], ⟨F, by rw [hf (s + 1) (by omega) (by omega), h2], h3⟩, zRow_cg h4 (zcg_mono hf (by omega) (by omega)), h5⟩
theorem zHis_cg {h h' : zH} {g : Nat} {H : List yS} (hg : zHis h g H) (hf : zcg g (g + 34) h h') : zHis h' g H := by
  obtain ⟨nx, h0, h1, h2, h3, h4, h5⟩ := hg
  refine ⟨nx, h0, by rw [hf g (by omega) (by omega), h1], by rw [hf (g + 1) (by omega) (by omega), h2], fun k hk => ?_, fun j S hj => ?_, h5⟩
  · obtain ⟨S, hS⟩ := h3 k hk
    exact ⟨S, zSta_cg hS (zcg_mono hf (by omega) (by omega))⟩
  · exact zSta_cg (h4 j S hj) (zcg_mono hf (by omega) (by omega))
/-- two ranges of addresses changed alone -/
def zf2 (a b c e : Nat) (h h' : zH) : Prop := (∀ q, (q < a ∨ b ≤ q) → (q < c ∨ e ≤ q) → h'.1 q = h.1 q) ∧ h'.2 = h.2
theorem zf2_rfl {a b c e : Nat} {h : zH} : zf2 a b c e h h := ⟨fun _ _ _ => rfl, rfl⟩
theorem zf2_tr {a b c e : Nat} {h h' h'' : zH} (h1 : zf2 a b c e h h') (h2 : zf2 a b c e h' h'') : zf2 a b c e h h'' := ⟨fun q p r => (h2.1 q p r).trans (h1.1 q p r), h2.2.trans h1.2⟩
theorem zf2_1 {a b c e : Nat} {h h' : zH} (h1 : zfr a b h h') : zf2 a b c e h h' := ⟨fun q p _ => h1.1 q p, h1.2⟩
theorem zf2_2 {a b c e : Nat} {h h' : zH} (h1 : zfr c e h h') : zf2 a b c e h h' := ⟨fun q _ p => h1.1 q p, h1.2⟩
theorem zcg_f2 {lo hi a b c e : Nat} {h h' : zH} (hf : zf2 a b c e h h') (h1 : hi ≤ a ∨ b ≤ lo) (h2 : hi ≤ c ∨ e ≤ lo) : zcg lo hi h h' := fun q h3 h4 => hf.1 q (by omega) (by omega)
theorem zf2_fr {a b c e lo hi : Nat} {h h' : zH} (hf : zf2 a b c e h h') (h1 : lo ≤ a) (h2 : b ≤ hi) (h3 : lo ≤ c) (h4 : e ≤ hi) : zfr lo hi h h' := ⟨fun q hq => hf.1 q (by omega) (by omega), hf.2⟩
theorem ydp_ysn {a : yT} : ydp (ysn a) ≤ ydp a + 1 := by
  unfold ysn
  by_cases h1 : yk a = nI 99
  · rw [if_pos h1]; exact Nat.le_add_left _ _
  · rw [if_neg h1]
    by_cases h2 : yk a = nI 110
    · rw [if_pos h2]
      cases a with
      | leaf => exact Nat.zero_le _
      | inner n k v l r =>
        show ydp l ≤ max (ydp l) (ydp r) + 1 + 1
        have := Nat.le_max_left (ydp l) (ydp r)
        omega
    · rw [if_neg h2]
      show max (ydp a) 0 + 1 ≤ ydp a + 1
      rw [Nat.max_eq_left (Nat.zero_le _)]
      exact Nat.le_refl _
theorem ydp_yl {a : yT} : ydp (yl a) ≤ ydp a := by
  cases a with
  | leaf => exact Nat.le_refl _
  | inner n k v l r =>
    show ydp l ≤ max (ydp l) (ydp r) + 1
    have := Nat.le_max_left (ydp l) (ydp r)
    omega
theorem ydp_cn {v : Int32} : ydp (ycn v) = 1 := rfl
theorem ydp_ysp {k : Int32} {a b : yT} : ydp (ysp k a b) ≤ max (ydp a) (ydp b) + 1 := by
  have m1 := Nat.le_max_left (ydp a) (ydp b)
  have m2 := Nat.le_max_right (ydp a) (ydp b)
  have m3 := ydp_yl (a := b)
  have m4 : ∀ k v, ydp (ymk k v b .leaf) = ydp b + 1 := fun k v => by
    show max (ydp b) 0 + 1 = ydp b + 1
    rw [Nat.max_eq_left (Nat.zero_le _)]
  unfold ysp ysu ysd ysm
  repeat' split
  all_goals first
    | (rw [ydp_cn]; omega)
    | (rw [ydp_mk]; omega)
    | (rw [m4]; omega)
    | omega
theorem ydp_ysim : ∀ t : yT, ydp (ysim t) ≤ ydp t
  | .leaf => Nat.le_refl _
  | .inner n k v l r => by
    have i1 := ydp_ysim l
    have i2 := ydp_ysim r
    have m1 := Nat.le_max_left (ydp l) (ydp r)
    have m2 := Nat.le_max_right (ydp l) (ydp r)
    show ydp (if k = nI 110 then ysn (ysim l) else if yis k = true then ysp k (ysim l) (ysim r) else ymk k v .leaf .leaf) ≤ max (ydp l) (ydp r) + 1
    split
    · have := ydp_ysn (a := ysim l)
      omega
    · split
      · have := ydp_ysp (k := k) (a := ysim l) (b := ysim r)
        omega
      · show 0 + 1 ≤ _
        omega
section ZDP
variable {sv : Nat → Value} {d : Nat}
theorem d_95l {f m o al : Nat} {ns : List yN} {rt : Int32} (hwf : ywf ns) (hn : ns.length ≤ 124) (h1 : f + 9 ≤ o ∨ o + 9 ≤ f) (h2 : f + 9 ≤ al ∨ al + 3 ≤ f) (h3 : o + 9 ≤ al ∨ al + 3 ≤ o) (hdp : ∀ x, ych ns.length x → ydp (ysim (ygt (ytm ns) x)) ≤ 40) : ∀ n i (h : zH) (os : List yN) (P : List Int32), i + n = ns.length → os.length ≤ i → ywf os → zTre h f m ns → zTre h o 124 os → zAl h al P → yP2 ysim ns os P i → ∃ h' os' P', zrun zP sv (zcall zP sv (d + 45)) 95 7 [.val (.ref al), .val (.ref f), .val (.int rt), .val (.ref o), .val (.int (nI i))] [] h = zrun zP sv (zcall zP sv (d + 45)) 95 39 [.val (.ref al), .val (.ref f), .val (.int rt), .val (.ref o), .val (.int (nI ns.length))] [] h' ∧ os'.length ≤ ns.length ∧ ywf os' ∧ zTre h' o 124 os' ∧ zAl h' al P' ∧ yP2 ysim ns os' P' ns.length ∧ zf2 o (o + 9) al (al + 3) h h' := by
  intro n
  induction n with
  | zero =>
    intro i h os P hi hos hw hf ho ha hp
    obtain rfl : i = ns.length := by omega
    refine ⟨h, os, P, ?_, hos, hw, ho, ha, hp, zf2_rfl⟩
    rw [zs_95_7, zs_95_9, zs_95_10, zTre_rc hf, d_182 hf, zbk_v, zts_s, zs_95_13, if_neg (nI_nlt (Nat.le_refl _) hwf.1)]
  | succ n ih =>
    intro i h os P hi hos hw hf ho ha hp
    have hl := hwf.1
    obtain ⟨nd, hnd⟩ := ynd_ex (ns := ns) (i := i) (by omega)
    obtain ⟨h1', os1, x, e1, w1, ⟨e, rfl, he⟩, w3, w4, w5, f1⟩ := d_96 (sv := sv) (d := d) hf hwf hnd ha hp ho hw (by omega) (fun x hx => hdp x (ych_mono hx (by omega)))
    have a1 := zAl_fr ha f1 (by omega)
    have e2 := d_166 (sv := sv) (d := d + 44) (x := nI i) (y := x) a1.2.1
    have a2 := zAl_set (x := x) a1 (show i < 2 ^ 31 by omega)
    have f2 : zfr al (al + 3) h1' (zup h1' (al + 1 + 1) (20, (ys P (nI i) x).map Value.int)) := zfr_up (by omega) (by omega)
    have p1 := yP2_s (yP2_app (e := e) hp (by omega)) (ytm_at hwf hnd) (by rw [ha.2.2]; omega) w4 w5
    have hq := zf2_tr (zf2_1 (c := al) (e := al + 3) f1) (zf2_2 (a := o) (b := o + 9) f2)
    obtain ⟨h', os', P', e3, v1, v2, v3, v4, v5, v6⟩ := ih (i + 1) _ (os ++ e) (P.set i x) (by omega) (by rw [List.length_append]; omega) w3 (zTre_cg hf (zcg_f2 hq (by omega) (by omega))) (zTre_fr w1 f2 (by omega)) a2 p1
    refine ⟨h', os', P', ?_, v1, v2, v3, v4, v5, zf2_tr hq v6⟩
    have q0 := ha.1
    rw [zs_95_7, zs_95_9, zs_95_10, zTre_rc hf, d_182 hf, zbk_v, zts_s, zs_95_13, if_pos (nI_lt (by omega) hl)]
    simp only [zs_95_0, zs_95_1, zs_95_4, zs_95_5, zs_95_9, zs_95_10, zs_95_13, zs_95_16, zs_95_17, zs_95_20, zs_95_22, zs_95_23, zs_95_24, zs_95_26, zs_95_27, zs_95_30, zs_95_33, zs_95_40, zs_95_41, zs_95_44, q0, zrc_9, zf_9_0, zp_9_0, zp_9_0n, zAl_rc ha, e1, zRow_rc a1.2.1, e2, zbk_v, zts_s, zts_n]
    rw [zs_95_36, nI_1', e3]
theorem d_95 {h : zH} {f m o al : Nat} {ns ms : List yN} {P : List Int32} {rt : Int32} (hwf : ywf ns) (hn : ns.length ≤ 124) (h1 : f + 9 ≤ o ∨ o + 9 ≤ f) (h2 : f + 9 ≤ al ∨ al + 3 ≤ f) (h3 : o + 9 ≤ al ∨ al + 3 ≤ o) (hdp : ∀ x, ych ns.length x → ydp (ysim (ygt (ytm ns) x)) ≤ 40) (hf : zTre h f m ns) (ho : zTre h o 124 ms) (ha : zAl h al P) (hr : ych ns.length rt) : ∃ h' os' P' x, zcall zP sv (d + 46) 95 [.ref al, .ref f, .int rt, .ref o] h = some (.inl (some (.int x)), h') ∧ os'.length ≤ ns.length ∧ ywf os' ∧ zTre h' o 124 os' ∧ zAl h' al P' ∧ ych os'.length x ∧ ygt (ytm os') x = ysim (ygt (ytm ns) rt) ∧ zf2 o (o + 9) al (al + 3) h h' := by
  obtain ⟨h1', e1, w1, f1⟩ := d_190 (sv := sv) (d := d + 44) ho
  obtain ⟨h', os', P', e2, v1, v2, v3, v4, v5, v6⟩ := d_95l (sv := sv) (d := d) (rt := rt) hwf hn h1 h2 h3 hdp ns.length 0 h1' [] P (Nat.zero_add _) (Nat.zero_le _) ywf_nil (zTre_fr hf f1 (by omega)) w1 (zAl_fr ha f1 (by omega)) yP2_0
  rw [nI_0] at e2
  obtain ⟨x, ex, x1, x2⟩ := d_91 (sv := sv) (d := d + 43) v4 v5 hr (Nat.le_refl _) hwf.1 rfl
  refine ⟨h', os', P', x, ?_, v1, v2, v3, v4, x1, x2, zf2_tr (zf2_1 f1) v6⟩
  rw [zc_95, zs_95_0, zs_95_1, zTre_rc ho, e1, zbk_v, zts_n, zs_95_4, zs_95_5 znw_u, e2]
  simp only [zs_95_0, zs_95_1, zs_95_4, zs_95_5, zs_95_7, zs_95_9, zs_95_10, zs_95_13, zs_95_16, zs_95_17, zs_95_20, zs_95_22, zs_95_23, zs_95_24, zs_95_26, zs_95_27, zs_95_30, zs_95_33, zs_95_36, zs_95_39, zs_95_40, zs_95_41, zs_95_44, zAl_rc v4, ex, zbk_v, zts_s]
end ZDP

def yder (c : Int32) : yT → yT
  | .leaf => .leaf
  | .inner _ k v l r => if k = nI 110 then ymk (nI 110) 0 (yder c l) .leaf else if k = nI 43 ∨ k = nI 45 then ymk k 0 (yder c l) (yder c r) else if k = nI 42 then ymk (nI 43) 0 (ymk (nI 42) 0 (yder c l) r) (ymk (nI 42) 0 l (yder c r)) else ycn (if k = nI 118 ∧ v = c then nI 1 else 0)
def yins (c : Int32) (w : yT) : yT → yT
  | .leaf => .leaf
  | .inner _ k v l r => if k = nI 118 ∧ v = c then w else ymk k v (yins c w l) (yins c w r)
theorem yder_mk {c k v : Int32} {l r : yT} : yder c (ymk k v l r) = if k = nI 110 then ymk (nI 110) 0 (yder c l) .leaf else if k = nI 43 ∨ k = nI 45 then ymk k 0 (yder c l) (yder c r) else if k = nI 42 then ymk (nI 43) 0 (ymk (nI 42) 0 (yder c l) r) (ymk (nI 42) 0 l (yder c r)) else ycn (if k = nI 118 ∧ v = c then nI 1 else 0) := rfl
theorem yins_mk {c k v : Int32} {w l r : yT} : yins c w (ymk k v l r) = if k = nI 118 ∧ v = c then w else ymk k v (yins c w l) (yins c w r) := rfl
/-- all terms of a tree are of bounded depth -/
def yBd (B : Nat) (os : List yN) : Prop := ∀ (j : Nat) (t : yT), (ytm os)[j]? = some t → ydp t ≤ B
theorem yBd_snoc {B : Nat} {os : List yN} {nd : yN} (hb : yBd B os) (h : ydp (ymk nd.1 nd.2.1 (ygt (ytm os) nd.2.2.1) (ygt (ytm os) nd.2.2.2)) ≤ B) : yBd B (os ++ [nd]) := fun j t ht => by
  rw [ytm_snoc] at ht
  by_cases hj : j < (ytm os).length
  · rw [List.getElem?_append_left hj] at ht
    exact hb j t ht
  · rw [List.getElem?_append_right (by omega)] at ht
    have h2 := List.mem_of_getElem? ht
    rw [List.mem_singleton] at h2
    rw [h2]
    exact h
theorem yBd_x {B : Nat} {os : List yN} {x : Int32} (hb : yBd B os) (hl : os.length < 2 ^ 31) (hx : ych os.length x) : ydp (ygt (ytm os) x) ≤ B := by
  rcases hx with rfl | ⟨j, hj, rfl⟩
  · rw [ygt_n]; exact Nat.zero_le _
  · have e1 : (ytm os)[j]? = some ((ytm os)[j]'(by rw [ytm_l]; omega)) := List.getElem?_eq_getElem _
    rw [ygt_k (by omega), List.getD_eq_getElem?_getD, e1]
    exact hb j _ e1
theorem yBd_nil {B : Nat} : yBd B [] := fun j t h => by cases h
/-- what one step of building leaves: at most n nodes more -/
def yRn (h : zH) (o : Nat) (os : List yN) (n : Nat) (r : zR) (u : yT) : Prop := ∃ h' e x, r = some (.inl (some (.int x)), h') ∧ zTre h' o 124 (os ++ e) ∧ e.length ≤ n ∧ ywf (os ++ e) ∧ ych (os ++ e).length x ∧ ygt (ytm (os ++ e)) x = u ∧ zfr o (o + 9) h h' ∧ ∀ B, yBd B os → ydp u ≤ B → yBd B (os ++ e)
theorem yRn_add {h : zH} {o n : Nat} {os : List yN} {r : zR} {u : yT} {nd : yN} {h' : zH} (hn : 0 < n) (hr : r = some (.inl (some (.int (nI os.length))), h')) (ho : zTre h' o 124 (os ++ [nd])) (hf : zfr o (o + 9) h h') (hl : os.length < 124) (hw : ywf os) (h1 : ych os.length nd.2.2.1) (h2 : ych os.length nd.2.2.2) (hu : ymk nd.1 nd.2.1 (ygt (ytm os) nd.2.2.1) (ygt (ytm os) nd.2.2.2) = u) : yRn h o os n r u := ⟨h', [nd], _, hr, ho, hn, ywf_snoc hw h1 h2 (by omega), ych_snoc, by rw [ygt_new (by omega), hu], hf, fun B hb hB => yBd_snoc hb (by rw [hu]; exact hB)⟩
section ZDQ
variable {sv : Nat → Value} {d : Nat} {h : zH}
theorem d_91u {φ : yT → yT} {ns os : List yN} {P : List Int32} {al i : Nat} {x : Int32} (hp : yP2 φ ns os P i) (hx : ych i x) (hi : i ≤ ns.length) (hl : ns.length < 2 ^ 31) (h0 : φ .leaf = .leaf) : ∃ y, (∀ h d, zAl h al P → zcall zP sv (d + 2) 91 [.ref al, .int x] h = some (.inl (some (.int y)), h)) ∧ ych os.length y ∧ ygt (ytm os) y = φ (ygt (ytm ns) x) := by
  rcases hx with rfl | ⟨j, hj, rfl⟩
  · refine ⟨-1, fun h d ha => ?_, ych_n, by rw [ygt_n, ygt_n, h0]⟩
    simp only [zc_91, zs_91_0, zs_91_1, zs_91_2, zs_91_5, zs_91_6, zs_91_9, zs_91_10, zs_91_13, zs_91_14, zs_91_17, nI_m1e, ↓reduceIte]
  · have e1 : (ytm ns)[j]? = some ((ytm ns)[j]'(by rw [ytm_l]; omega)) := List.getElem?_eq_getElem _
    obtain ⟨y, p1, p2, p3⟩ := hp j _ hj e1
    refine ⟨y, fun h d ha => ?_, p2, ?_⟩
    · have g1 : ¬ nI j = -1 := nI_nm1 (by omega)
      simp only [zc_91, zs_91_0, zs_91_1, zs_91_2, zs_91_5, zs_91_6, zs_91_9, zs_91_10, zs_91_13, zs_91_14, zs_91_17, if_neg g1, ha.1, zrc_9, zf_9_0, zp_9_0, zp_9_0n, zRow_rc ha.2.1, d_165 ha.2.1, yg_e (show j < 2 ^ 31 by omega) p1, zbk_v, zts_s]
    · rw [p3, ygt_k (by omega), List.getD_eq_getElem?_getD, e1]
      rfl
theorem d_94 {f m o al i : Nat} {ns e0 : List yN} {P : List Int32} {nd : yN} {c : Int32} (hf : zTre h f m ns) (hwf : ywf ns) (hnd : ns[i]? = some nd) (ha : zAl h al P) (hp : yP2 (yder c) ns (ns ++ e0) P i) (ho : zTre h o 124 (ns ++ e0)) (hw : ywf (ns ++ e0)) (hl : (ns ++ e0).length + 3 ≤ 124) (hd : o + 9 ≤ al ∨ al + 3 ≤ o) : yRn h o (ns ++ e0) 3 (zcall zP sv (d + 4) 94 [.ref al, .ref f, .int (nI i), .int c, .ref o] h) (yder c (ymk nd.1 nd.2.1 (ygt (ytm ns) nd.2.2.1) (ygt (ytm ns) nd.2.2.2))) := by
  have hi := (List.getElem?_eq_some_iff.mp hnd).1
  have hc := hwf.2 i nd hnd
  have hlen : (ns ++ e0).length = ns.length + e0.length := List.length_append
  have k1 : ych (ns ++ e0).length nd.2.2.1 := ych_mono hc.1 (by omega)
  have k2 : ych (ns ++ e0).length nd.2.2.2 := ych_mono hc.2 (by omega)
  have q1 : ygt (ytm (ns ++ e0)) nd.2.2.1 = ygt (ytm ns) nd.2.2.1 := ygt_pre hwf.1 (ych_mono hc.1 (by omega))
  have q2 : ygt (ytm (ns ++ e0)) nd.2.2.2 = ygt (ytm ns) nd.2.2.2 := ygt_pre hwf.1 (ych_mono hc.2 (by omega))
  obtain ⟨x, exu, x1, x2⟩ := d_91u (sv := sv) (al := al) hp hc.1 (by omega) hwf.1 rfl
  obtain ⟨y, eyu, y1, y2⟩ := d_91u (sv := sv) (al := al) hp hc.2 (by omega) hwf.1 rfl
  have ex := exu h (d + 1) ha
  have ey := eyu h (d + 1) ha
  rw [yder_mk, ← x2, ← y2]
  by_cases h1 : nd.1 = nI 110
  · rw [if_pos h1]
    obtain ⟨h', e, w, f1⟩ := d_193 (sv := sv) (d := d) (x := x) ho (by omega)
    refine yRn_add (nd := (nI 110, 0, x, -1)) (by decide) ?_ w f1 (by omega) hw x1 ych_n (by rw [ygt_n])
    simp (disch := exact znw_u) only [zc_94, zs_94_0, zs_94_1, zs_94_2, zs_94_5, zs_94_7, zs_94_8, zs_94_9, zs_94_12, zs_94_14, zs_94_15, zs_94_16, zs_94_19, zs_94_21, zs_94_23, zs_94_25, zs_94_28, zs_94_30, zs_94_31, zs_94_33, zs_94_36, zs_94_39, zs_94_40, zs_94_42, zs_94_44, zs_94_47, zs_94_49, zs_94_51, zs_94_54, zs_94_56, zs_94_58, zs_94_59, zs_94_61, zs_94_64, zs_94_65, zs_94_67, zs_94_70, zs_94_73, zs_94_74, zs_94_76, zs_94_78, zs_94_81, zs_94_83, zs_94_85, zs_94_86, zs_94_88, zs_94_91, zs_94_93, zs_94_96, zs_94_98, zs_94_100, zs_94_102, zs_94_104, zs_94_105, zs_94_107, zs_94_110, zs_94_113, zs_94_115, zs_94_117, zs_94_119, zs_94_121, zs_94_123, zs_94_126, zs_94_127, zs_94_129, zs_94_130, zs_94_131, zs_94_132, zs_94_135, zs_94_138, zs_94_139, zs_94_142, zs_94_143, zs_94_146, zTre_rc hf, zTre_rc ho, zAl_rc ha, d_184 hf hnd, d_186 hf hnd, d_187 hf hnd, ex, ey, if_pos h1, e, zbk_v, zts_s]
  · rw [if_neg h1]
    by_cases h2 : nd.1 = nI 43
    · rw [if_pos (Or.inl h2)]
      obtain ⟨h', e, w, f1⟩ := d_194 (sv := sv) (d := d) (k := nd.1) (x := x) (y := y) ho (by omega)
      refine yRn_add (nd := (nd.1, 0, x, y)) (by decide) ?_ w f1 (by omega) hw x1 y1 rfl
      simp (disch := exact znw_u) only [zc_94, zs_94_0, zs_94_1, zs_94_2, zs_94_5, zs_94_7, zs_94_8, zs_94_9, zs_94_12, zs_94_14, zs_94_15, zs_94_16, zs_94_19, zs_94_21, zs_94_23, zs_94_25, zs_94_28, zs_94_30, zs_94_31, zs_94_33, zs_94_36, zs_94_39, zs_94_40, zs_94_42, zs_94_44, zs_94_47, zs_94_49, zs_94_51, zs_94_54, zs_94_56, zs_94_58, zs_94_59, zs_94_61, zs_94_64, zs_94_65, zs_94_67, zs_94_70, zs_94_73, zs_94_74, zs_94_76, zs_94_78, zs_94_81, zs_94_83, zs_94_85, zs_94_86, zs_94_88, zs_94_91, zs_94_93, zs_94_96, zs_94_98, zs_94_100, zs_94_102, zs_94_104, zs_94_105, zs_94_107, zs_94_110, zs_94_113, zs_94_115, zs_94_117, zs_94_119, zs_94_121, zs_94_123, zs_94_126, zs_94_127, zs_94_129, zs_94_130, zs_94_131, zs_94_132, zs_94_135, zs_94_138, zs_94_139, zs_94_142, zs_94_143, zs_94_146, zTre_rc hf, zTre_rc ho, zAl_rc ha, d_184 hf hnd, d_186 hf hnd, d_187 hf hnd, ex, ey, if_neg h1, if_pos h2, e, zbk_v, zts_s]
    · by_cases h3 : nd.1 = nI 45
      · rw [if_pos (Or.inr h3)]
        obtain ⟨h', e, w, f1⟩ := d_194 (sv := sv) (d := d) (k := nd.1) (x := x) (y := y) ho (by omega)
        refine yRn_add (nd := (nd.1, 0, x, y)) (by decide) ?_ w f1 (by omega) hw x1 y1 rfl
        simp (disch := exact znw_u) only [zc_94, zs_94_0, zs_94_1, zs_94_2, zs_94_5, zs_94_7, zs_94_8, zs_94_9, zs_94_12, zs_94_14, zs_94_15, zs_94_16, zs_94_19, zs_94_21, zs_94_23, zs_94_25, zs_94_28, zs_94_30, zs_94_31, zs_94_33, zs_94_36, zs_94_39, zs_94_40, zs_94_42, zs_94_44, zs_94_47, zs_94_49, zs_94_51, zs_94_54, zs_94_56, zs_94_58, zs_94_59, zs_94_61, zs_94_64, zs_94_65, zs_94_67, zs_94_70, zs_94_73, zs_94_74, zs_94_76, zs_94_78, zs_94_81, zs_94_83, zs_94_85, zs_94_86, zs_94_88, zs_94_91, zs_94_93, zs_94_96, zs_94_98, zs_94_100, zs_94_102, zs_94_104, zs_94_105, zs_94_107, zs_94_110, zs_94_113, zs_94_115, zs_94_117, zs_94_119, zs_94_121, zs_94_123, zs_94_126, zs_94_127, zs_94_129, zs_94_130, zs_94_131, zs_94_132, zs_94_135, zs_94_138, zs_94_139, zs_94_142, zs_94_143, zs_94_146, zTre_rc hf, zTre_rc ho, zAl_rc ha, d_184 hf hnd, d_186 hf hnd, d_187 hf hnd, ex, ey, if_neg h1, if_neg h2, if_pos h3, e, zbk_v, zts_s]
      · rw [if_neg (fun g => g.elim h2 h3)]
        by_cases h4 : nd.1 = nI 42
        · rw [if_pos h4]
          obtain ⟨ha1, e1, w1, f1⟩ := d_194 (sv := sv) (d := d) (k := nI 42) (x := x) (y := nd.2.2.2) ho (by omega)
          have l1 : (ns ++ e0 ++ [(nI 42, 0, x, nd.2.2.2)]).length = (ns ++ e0).length + 1 := List.length_append
          have z1 := ywf_snoc (nd := (nI 42, 0, x, nd.2.2.2)) hw x1 k2 (by omega)
          have ey1 := eyu ha1 (d + 1) (zAl_fr ha f1 (by omega))
          obtain ⟨ha2, e2, w2, f2⟩ := d_194 (sv := sv) (d := d) (k := nI 42) (x := nd.2.2.1) (y := y) w1 (by omega)
          rw [l1] at e2
          have l2 : (ns ++ e0 ++ [(nI 42, 0, x, nd.2.2.2)] ++ [(nI 42, 0, nd.2.2.1, y)]).length = (ns ++ e0).length + 2 := by rw [List.length_append, l1]; rfl
          have z2 := ywf_snoc (nd := (nI 42, 0, nd.2.2.1, y)) z1 (ych_mono k1 (by omega)) (ych_mono y1 (by omega)) (by omega)
          obtain ⟨ha3, e3, w3, f3⟩ := d_194 (sv := sv) (d := d) (k := nI 43) (x := nI (ns ++ e0).length) (y := nI ((ns ++ e0).length + 1)) w2 (by omega)
          rw [l2] at e3
          have z3 := ywf_snoc (nd := (nI 43, 0, nI (ns ++ e0).length, nI ((ns ++ e0).length + 1))) z2 (Or.inr ⟨_, by omega, rfl⟩) (Or.inr ⟨_, by omega, rfl⟩) (by omega)
          have l3 : (ns ++ e0 ++ [(nI 42, 0, x, nd.2.2.2)] ++ [(nI 42, 0, nd.2.2.1, y)] ++ [(nI 43, 0, nI (ns ++ e0).length, nI ((ns ++ e0).length + 1))]).length = (ns ++ e0).length + 3 := by rw [List.length_append, l2]; rfl
          have a1 : ns ++ e0 ++ [(nI 42, 0, x, nd.2.2.2)] ++ [(nI 42, 0, nd.2.2.1, y)] ++ [(nI 43, 0, nI (ns ++ e0).length, nI ((ns ++ e0).length + 1))] = ns ++ e0 ++ [(nI 42, 0, x, nd.2.2.2), (nI 42, 0, nd.2.2.1, y), (nI 43, 0, nI (ns ++ e0).length, nI ((ns ++ e0).length + 1))] := by rw [List.append_assoc, List.append_assoc]; rfl
          have t1 : ygt (ytm (ns ++ e0 ++ [(nI 42, 0, x, nd.2.2.2)] ++ [(nI 42, 0, nd.2.2.1, y)])) (nI (ns ++ e0).length) = ymk (nI 42) 0 (ygt (ytm (ns ++ e0)) x) (ygt (ytm (ns ++ e0)) nd.2.2.2) := by
            rw [ygt_pre (by omega) (Or.inr ⟨_, by omega, rfl⟩), ygt_new (by omega)]
          have t2 : ygt (ytm (ns ++ e0 ++ [(nI 42, 0, x, nd.2.2.2)] ++ [(nI 42, 0, nd.2.2.1, y)])) (nI ((ns ++ e0).length + 1)) = ymk (nI 42) 0 (ygt (ytm (ns ++ e0)) nd.2.2.1) (ygt (ytm (ns ++ e0)) y) := by
            rw [← l1, ygt_new (by omega), ygt_pre (by omega) k1, ygt_pre (by omega) y1]
          refine ⟨ha3, [(nI 42, 0, x, nd.2.2.2), (nI 42, 0, nd.2.2.1, y), (nI 43, 0, nI (ns ++ e0).length, nI ((ns ++ e0).length + 1))], nI ((ns ++ e0).length + 2), ?_, by rw [← a1]; exact w3, Nat.le_refl _, by rw [← a1]; exact z3, by rw [← a1, l3]; exact Or.inr ⟨_, by omega, rfl⟩, ?_, zfr_tr (zfr_tr f1 f2) f3, fun B hb hB => ?_⟩
          · simp (disch := exact znw_u) only [zc_94, zs_94_0, zs_94_1, zs_94_2, zs_94_5, zs_94_7, zs_94_8, zs_94_9, zs_94_12, zs_94_14, zs_94_15, zs_94_16, zs_94_19, zs_94_21, zs_94_23, zs_94_25, zs_94_28, zs_94_30, zs_94_31, zs_94_33, zs_94_36, zs_94_39, zs_94_40, zs_94_42, zs_94_44, zs_94_47, zs_94_49, zs_94_51, zs_94_54, zs_94_56, zs_94_58, zs_94_59, zs_94_61, zs_94_64, zs_94_65, zs_94_67, zs_94_70, zs_94_73, zs_94_74, zs_94_76, zs_94_78, zs_94_81, zs_94_83, zs_94_85, zs_94_86, zs_94_88, zs_94_91, zs_94_93, zs_94_96, zs_94_98, zs_94_100, zs_94_102, zs_94_104, zs_94_105, zs_94_107, zs_94_110, zs_94_113, zs_94_115, zs_94_117, zs_94_119, zs_94_121, zs_94_123, zs_94_126, zs_94_127, zs_94_129, zs_94_130, zs_94_131, zs_94_132, zs_94_135, zs_94_138, zs_94_139, zs_94_142, zs_94_143, zs_94_146, zTre_rc hf, zTre_rc ho, zAl_rc ha, d_184 hf hnd, d_186 hf hnd, d_187 hf hnd, ex, ey, if_neg h1, if_neg h2, if_neg h3, if_pos h4, e1, zAl_rc (zAl_fr ha f1 (by omega)), ey1, zTre_rc w1, e2, zTre_rc w2, e3, zbk_v, zts_s]
          · rw [← a1, ← l2, ygt_new (by omega)]
            show ymk (nI 43) 0 (ygt _ (nI (ns ++ e0).length)) (ygt _ (nI ((ns ++ e0).length + 1))) = _
            rw [t1, t2, q1, q2]
          · rw [ydp_mk, ydp_mk, ydp_mk] at hB
            rw [← a1]
            refine yBd_snoc (yBd_snoc (yBd_snoc hb ?_) ?_) ?_
            · show ydp (ymk (nI 42) 0 (ygt (ytm (ns ++ e0)) x) (ygt (ytm (ns ++ e0)) nd.2.2.2)) ≤ B
              rw [q2, ydp_mk]
              omega
            · show ydp (ymk (nI 42) 0 (ygt _ nd.2.2.1) (ygt _ y)) ≤ B
              rw [ygt_pre (by omega) k1, ygt_pre (by omega) y1, q1, ydp_mk]
              omega
            · show ydp (ymk (nI 43) 0 (ygt _ (nI (ns ++ e0).length)) (ygt _ (nI ((ns ++ e0).length + 1)))) ≤ B
              rw [t1, t2, q1, q2, ydp_mk, ydp_mk, ydp_mk]
              omega
        · rw [if_neg h4]
          obtain ⟨h', e, w, f1⟩ := d_192 (sv := sv) (d := d) (x := if nd.1 = nI 118 ∧ nd.2.1 = c then nI 1 else 0) ho (by omega)
          refine yRn_add (nd := (nI 99, (if nd.1 = nI 118 ∧ nd.2.1 = c then nI 1 else 0), -1, -1)) (by decide) ?_ w f1 (by omega) hw ych_n ych_n (by rw [ygt_n]; rfl)
          have e8 := d_188 (sv := sv) (d := d) (c := c) hf hnd
          by_cases h5 : nd.1 = nI 118 ∧ nd.2.1 = c
          · rw [if_pos h5] at e e8
            simp (disch := exact znw_u) only [zc_94, zs_94_0, zs_94_1, zs_94_2, zs_94_5, zs_94_7, zs_94_8, zs_94_9, zs_94_12, zs_94_14, zs_94_15, zs_94_16, zs_94_19, zs_94_21, zs_94_23, zs_94_25, zs_94_28, zs_94_30, zs_94_31, zs_94_33, zs_94_36, zs_94_39, zs_94_40, zs_94_42, zs_94_44, zs_94_47, zs_94_49, zs_94_51, zs_94_54, zs_94_56, zs_94_58, zs_94_59, zs_94_61, zs_94_64, zs_94_65, zs_94_67, zs_94_70, zs_94_73, zs_94_74, zs_94_76, zs_94_78, zs_94_81, zs_94_83, zs_94_85, zs_94_86, zs_94_88, zs_94_91, zs_94_93, zs_94_96, zs_94_98, zs_94_100, zs_94_102, zs_94_104, zs_94_105, zs_94_107, zs_94_110, zs_94_113, zs_94_115, zs_94_117, zs_94_119, zs_94_121, zs_94_123, zs_94_126, zs_94_127, zs_94_129, zs_94_130, zs_94_131, zs_94_132, zs_94_135, zs_94_138, zs_94_139, zs_94_142, zs_94_143, zs_94_146, zTre_rc hf, zTre_rc ho, zAl_rc ha, d_184 hf hnd, d_186 hf hnd, d_187 hf hnd, ex, ey, if_neg h1, if_neg h2, if_neg h3, if_neg h4, e8, e, nI_1e0, zbk_v, zts_s, ↓reduceIte]
          · rw [if_neg h5] at e e8
            simp (disch := exact znw_u) only [zc_94, zs_94_0, zs_94_1, zs_94_2, zs_94_5, zs_94_7, zs_94_8, zs_94_9, zs_94_12, zs_94_14, zs_94_15, zs_94_16, zs_94_19, zs_94_21, zs_94_23, zs_94_25, zs_94_28, zs_94_30, zs_94_31, zs_94_33, zs_94_36, zs_94_39, zs_94_40, zs_94_42, zs_94_44, zs_94_47, zs_94_49, zs_94_51, zs_94_54, zs_94_56, zs_94_58, zs_94_59, zs_94_61, zs_94_64, zs_94_65, zs_94_67, zs_94_70, zs_94_73, zs_94_74, zs_94_76, zs_94_78, zs_94_81, zs_94_83, zs_94_85, zs_94_86, zs_94_88, zs_94_91, zs_94_93, zs_94_96, zs_94_98, zs_94_100, zs_94_102, zs_94_104, zs_94_105, zs_94_107, zs_94_110, zs_94_113, zs_94_115, zs_94_117, zs_94_119, zs_94_121, zs_94_123, zs_94_126, zs_94_127, zs_94_129, zs_94_130, zs_94_131, zs_94_132, zs_94_135, zs_94_138, zs_94_139, zs_94_142, zs_94_143, zs_94_146, zTre_rc hf, zTre_rc ho, zAl_rc ha, d_184 hf hnd, d_186 hf hnd, d_187 hf hnd, ex, ey, if_neg h1, if_neg h2, if_neg h3, if_neg h4, e8, e, zbk_v, zts_s, ↓reduceIte]
end ZDQ

section ZDR
variable {sv : Nat → Value} {d : Nat}
theorem d_93l {f m o al : Nat} {ns : List yN} {c : Int32} (hwf : ywf ns) (hn : ns.length ≤ 31) (h1 : f + 9 ≤ o ∨ o + 9 ≤ f) (h2 : f + 9 ≤ al ∨ al + 3 ≤ f) (h3 : o + 9 ≤ al ∨ al + 3 ≤ o) {B : Nat} (hB : ∀ (j : Nat) (t : yT), (ytm ns)[j]? = some t → ydp (yder c t) ≤ B) : ∀ n i (h : zH) (e0 : List yN) (P : List Int32), i + n = ns.length → e0.length ≤ 3 * i → ywf (ns ++ e0) → yBd B (ns ++ e0) → zTre h f m ns → zTre h o 124 (ns ++ e0) → zAl h al P → yP2 (yder c) ns (ns ++ e0) P i → ∃ h' e' P', zrun zP sv (zcall zP sv (d + 4)) 93 8 [.val (.ref al), .val (.ref f), .val (.int c), .val (.ref o), .val (.int (nI i))] [] h = zrun zP sv (zcall zP sv (d + 4)) 93 41 [.val (.ref al), .val (.ref f), .val (.int c), .val (.ref o), .val (.int (nI ns.length))] [] h' ∧ e'.length ≤ 3 * ns.length ∧ ywf (ns ++ e') ∧ yBd B (ns ++ e') ∧ zTre h' o 124 (ns ++ e') ∧ zAl h' al P' ∧ yP2 (yder c) ns (ns ++ e') P' ns.length ∧ zf2 o (o + 9) al (al + 3) h h' := by
  intro n
  induction n with
  | zero =>
    intro i h e0 P hi he hw hbd hf ho ha hp
    obtain rfl : i = ns.length := by omega
    refine ⟨h, e0, P, ?_, he, hw, hbd, ho, ha, hp, zf2_rfl⟩
    rw [zs_93_8, zs_93_10, zs_93_11, zTre_rc hf, d_182 hf, zbk_v, zts_s, zs_93_14, if_neg (nI_nlt (Nat.le_refl _) hwf.1)]
  | succ n ih =>
    intro i h e0 P hi he hw hbd hf ho ha hp
    have hl := hwf.1
    have hlen : (ns ++ e0).length = ns.length + e0.length := List.length_append
    obtain ⟨nd, hnd⟩ := ynd_ex (ns := ns) (i := i) (by omega)
    obtain ⟨h1', e, x, e1, w1, w2, w3, w4, w5, f1, fB⟩ := d_94 (sv := sv) (d := d) hf hwf hnd ha hp ho hw (by omega) h3
    have hb2 := fB B hbd (hB i _ (ytm_at hwf hnd))
    rw [List.append_assoc] at w1 w3 w4 w5 hb2
    have a1 := zAl_fr ha f1 (by omega)
    have e2 := d_166 (sv := sv) (d := d + 3) (x := nI i) (y := x) a1.2.1
    have a2 := zAl_set (x := x) a1 (show i < 2 ^ 31 by omega)
    have f2 : zfr al (al + 3) h1' (zup h1' (al + 1 + 1) (20, (ys P (nI i) x).map Value.int)) := zfr_up (by omega) (by omega)
    have p0 := yP2_app (e := e) hp (by omega)
    rw [List.append_assoc] at p0
    have p1 := yP2_s p0 (ytm_at hwf hnd) (by rw [ha.2.2]; omega) w4 w5
    have hq := zf2_tr (zf2_1 (c := al) (e := al + 3) f1) (zf2_2 (a := o) (b := o + 9) f2)
    obtain ⟨h', e', P', e3, v1, v2, vB, v3, v4, v5, v6⟩ := ih (i + 1) _ (e0 ++ e) (P.set i x) (by omega) (by rw [List.length_append]; omega) w3 hb2 (zTre_cg hf (zcg_f2 hq (by omega) (by omega))) (zTre_fr w1 f2 (by omega)) a2 p1
    refine ⟨h', e', P', ?_, v1, v2, vB, v3, v4, v5, zf2_tr hq v6⟩
    have q0 := ha.1
    rw [zs_93_8, zs_93_10, zs_93_11, zTre_rc hf, d_182 hf, zbk_v, zts_s, zs_93_14, if_pos (nI_lt (by omega) hl)]
    simp only [zs_93_0, zs_93_1, zs_93_2, zs_93_5, zs_93_6, zs_93_10, zs_93_11, zs_93_14, zs_93_17, zs_93_18, zs_93_21, zs_93_23, zs_93_24, zs_93_25, zs_93_27, zs_93_28, zs_93_29, zs_93_32, zs_93_35, zs_93_42, zs_93_43, zs_93_46, zs_93_49, q0, zrc_9, zf_9_0, zp_9_0, zp_9_0n, zAl_rc ha, e1, zRow_rc a1.2.1, e2, zbk_v, zts_s, zts_n]
    rw [zs_93_38, nI_1', e3]
theorem d_93 {h : zH} {f m o al : Nat} {ns ms : List yN} {P : List Int32} {c : Int32} (hwf : ywf ns) (hn : ns.length ≤ 31) (h0 : 0 < ns.length) (h1 : f + 9 ≤ o ∨ o + 9 ≤ f) (h2 : f + 9 ≤ al ∨ al + 3 ≤ f) (h3 : o + 9 ≤ al ∨ al + 3 ≤ o) (hf : zTre h f m ns) (ho : zTre h o 124 ms) (ha : zAl h al P) {B : Nat} (hB : ∀ (j : Nat) (t : yT), (ytm ns)[j]? = some t → ydp (yder c t) ≤ B) (hB2 : yBd B ns) : ∃ h' os' P' x, zcall zP sv (d + 5) 93 [.ref al, .ref f, .int c, .ref o] h = some (.inl (some (.int x)), h') ∧ os'.length ≤ 124 ∧ ywf os' ∧ yBd B os' ∧ zTre h' o 124 os' ∧ zAl h' al P' ∧ ych os'.length x ∧ ygt (ytm os') x = yder c (ygt (ytm ns) (nI (ns.length - 1))) ∧ zf2 o (o + 9) al (al + 3) h h' := by
  have hl := hwf.1
  obtain ⟨h1', e1, w1, f1⟩ := d_195 (sv := sv) (d := d + 1) ho hf (by omega) (by omega)
  obtain ⟨h', e', P', e2, v1, v2, vB, v3, v4, v5, v6⟩ := d_93l (sv := sv) (d := d) (c := c) hwf hn h1 h2 h3 hB ns.length 0 h1' [] P (Nat.zero_add _) (Nat.zero_le _) (by rw [List.append_nil]; exact hwf) (by rw [List.append_nil]; exact hB2) (zTre_fr hf f1 (by omega)) (by rw [List.append_nil]; exact w1) (zAl_fr ha f1 (by omega)) yP2_0
  rw [nI_0] at e2
  have hsb : nI ns.length - nI 1 = nI (ns.length - 1) := by
    conv => lhs; rw [show ns.length = ns.length - 1 + 1 by omega, ← nI_add, Int32.add_sub_cancel]
  have hf' := zTre_cg (zTre_fr hf f1 (by omega)) (zcg_f2 v6 (by omega) (by omega))
  obtain ⟨x, ex, x1, x2⟩ := d_91 (sv := sv) (d := d + 2) v4 v5 (Or.inr ⟨ns.length - 1, by omega, rfl⟩) (Nat.le_refl _) hl rfl
  refine ⟨h', ns ++ e', P', x, ?_, by rw [List.length_append]; omega, v2, vB, v3, v4, x1, x2, zf2_tr (zf2_1 f1) v6⟩
  rw [zc_93, zs_93_0, zs_93_1, zs_93_2, zTre_rc ho, e1, zbk_v, zts_n, zs_93_5, zs_93_6 znw_u, e2]
  simp only [zs_93_0, zs_93_1, zs_93_2, zs_93_5, zs_93_6, zs_93_8, zs_93_10, zs_93_11, zs_93_14, zs_93_17, zs_93_18, zs_93_21, zs_93_23, zs_93_24, zs_93_25, zs_93_27, zs_93_28, zs_93_29, zs_93_32, zs_93_35, zs_93_38, zs_93_41, zs_93_42, zs_93_43, zs_93_46, zs_93_49, zTre_rc hf', d_183 hf', hsb, zAl_rc v4, ex, zbk_v, zts_s]
theorem d_92l {f m o al : Nat} {ns rs : List yN} {c : Int32} {b : Nat} {w : yT} (hwf : ywf ns) (hn : ns.length ≤ 31) (hr : rs.length ≤ 31) (hwr : ywf rs) (hb : b < rs.length) (hbw : ygt (ytm rs) (nI b) = w) (h1 : f + 9 ≤ o ∨ o + 9 ≤ f) (h2 : f + 9 ≤ al ∨ al + 3 ≤ f) (h3 : o + 9 ≤ al ∨ al + 3 ≤ o) {rp : Slot} : ∀ n i (h : zH) (e0 : List yN) (P : List Int32), i + n = ns.length → e0.length ≤ i → ywf (rs ++ e0) → zTre h f m ns → zTre h o 124 (rs ++ e0) → zAl h al P → yP2 (yins c w) ns (rs ++ e0) P i → ∃ h' e' P', zrun zP sv (zcall zP sv (d + 4)) 92 16 [.val (.ref al), .val (.ref f), .val (.int c), rp, .val (.ref o), .val (.int (nI b)), .val (.int (nI i))] [] h = zrun zP sv (zcall zP sv (d + 4)) 92 101 [.val (.ref al), .val (.ref f), .val (.int c), rp, .val (.ref o), .val (.int (nI b)), .val (.int (nI ns.length))] [] h' ∧ e'.length ≤ ns.length ∧ ywf (rs ++ e') ∧ zTre h' o 124 (rs ++ e') ∧ zAl h' al P' ∧ yP2 (yins c w) ns (rs ++ e') P' ns.length ∧ zf2 o (o + 9) al (al + 3) h h' := by
  intro n
  induction n with
  | zero =>
    intro i h e0 P hi he hw hf ho ha hp
    obtain rfl : i = ns.length := by omega
    refine ⟨h, e0, P, ?_, he, hw, ho, ha, hp, zf2_rfl⟩
    simp only [zs_92_0, zs_92_2, zs_92_3, zs_92_6, zs_92_8, zs_92_11, zs_92_13, zs_92_14, zs_92_16, zs_92_18, zs_92_19, zs_92_22, zs_92_25, zs_92_26, zs_92_28, zs_92_29, zs_92_32, zs_92_35, zs_92_36, zs_92_39, zs_92_41, zs_92_43, zs_92_46, zs_92_49, zs_92_50, zs_92_53, zs_92_55, zs_92_57, zs_92_58, zs_92_60, zs_92_63, zs_92_64, zs_92_66, zs_92_69, zs_92_70, zs_92_71, zs_92_73, zs_92_76, zs_92_79, zs_92_80, zs_92_81, zs_92_83, zs_92_86, zs_92_89, zs_92_92, zs_92_95, zs_92_98, zs_92_102, zs_92_103, zs_92_106, zs_92_109, zTre_rc hf, d_182 hf, zbk_v, zts_s, if_neg (nI_nlt (Nat.le_refl ns.length) hwf.1)]
  | succ n ih =>
    intro i h e0 P hi he hw hf ho ha hp
    have hl := hwf.1
    have hlen : (rs ++ e0).length = rs.length + e0.length := List.length_append
    obtain ⟨nd, hnd⟩ := ynd_ex (ns := ns) (i := i) (by omega)
    have f0 : nI i < nI ns.length := nI_lt (by omega) hl
    have q0 := ha.1
    have e8 := d_188 (sv := sv) (d := d + 1) (c := c) hf hnd
    by_cases h5 : nd.1 = nI 118 ∧ nd.2.1 = c
    · rw [if_pos h5] at e8
      have e2 := d_166 (sv := sv) (d := d + 3) (x := nI i) (y := nI b) ha.2.1
      have a2 := zAl_set (x := nI b) ha (show i < 2 ^ 31 by omega)
      have f2 : zfr al (al + 3) h (zup h (al + 1 + 1) (20, (ys P (nI i) (nI b)).map Value.int)) := zfr_up (by omega) (by omega)
      have p1 := yP2_s hp (ytm_at hwf hnd) (by rw [ha.2.2]; omega) (Or.inr ⟨b, by omega, rfl⟩) (by rw [yins_mk, if_pos h5, ygt_pre hwr.1 (Or.inr ⟨b, hb, rfl⟩), hbw])
      have hq := zf2_2 (a := o) (b := o + 9) f2
      obtain ⟨h', e', P', e3, v1, v2, v3, v4, v5, v6⟩ := ih (i + 1) _ e0 (P.set i (nI b)) (by omega) (by omega) hw (zTre_fr hf f2 (by omega)) (zTre_fr ho f2 (by omega)) a2 p1
      refine ⟨h', e', P', ?_, v1, v2, v3, v4, v5, zf2_tr hq v6⟩
      simp only [zs_92_0, zs_92_2, zs_92_3, zs_92_6, zs_92_8, zs_92_11, zs_92_13, zs_92_14, zs_92_16, zs_92_18, zs_92_19, zs_92_22, zs_92_25, zs_92_26, zs_92_28, zs_92_29, zs_92_32, zs_92_35, zs_92_36, zs_92_39, zs_92_41, zs_92_43, zs_92_46, zs_92_49, zs_92_50, zs_92_53, zs_92_55, zs_92_57, zs_92_58, zs_92_60, zs_92_63, zs_92_64, zs_92_66, zs_92_69, zs_92_70, zs_92_71, zs_92_73, zs_92_76, zs_92_79, zs_92_80, zs_92_81, zs_92_83, zs_92_86, zs_92_89, zs_92_92, zs_92_95, zs_92_102, zs_92_103, zs_92_106, zs_92_109, zTre_rc hf, d_182 hf, if_pos f0, e8, nI_1e0, ↓reduceIte, q0, zrc_9, zf_9_0, zp_9_0, zp_9_0n, zAl_rc ha, zRow_rc ha.2.1, e2, zbk_v, zts_s, zts_n]
      rw [zs_92_98, nI_1', e3]
    · rw [if_neg h5] at e8
      have hc := hwf.2 i nd hnd
      obtain ⟨x, exu, x1, x2⟩ := d_91u (sv := sv) (al := al) hp hc.1 (by omega) hl rfl
      obtain ⟨y, eyu, y1, y2⟩ := d_91u (sv := sv) (al := al) hp hc.2 (by omega) hl rfl
      have ex := exu h (d + 2) ha
      have ey := eyu h (d + 2) ha
      obtain ⟨h1', e1, w1, f1⟩ := d_191 (sv := sv) (d := d + 2) (k := nd.1) (n := nd.2.1) (l := x) (r := y) ho (by omega)
      have w3 := ywf_snoc (nd := (nd.1, nd.2.1, x, y)) hw x1 y1 (by omega)
      have w4 : ygt (ytm (rs ++ e0 ++ [(nd.1, nd.2.1, x, y)])) (nI (rs ++ e0).length) = yins c w (ymk nd.1 nd.2.1 (ygt (ytm ns) nd.2.2.1) (ygt (ytm ns) nd.2.2.2)) := by
        rw [ygt_new (by omega), yins_mk, if_neg h5, ← x2, ← y2]
      have a1 := zAl_fr ha f1 (by omega)
      have e2 := d_166 (sv := sv) (d := d + 3) (x := nI i) (y := nI (rs ++ e0).length) a1.2.1
      have a2 := zAl_set (x := nI (rs ++ e0).length) a1 (show i < 2 ^ 31 by omega)
      have f2 : zfr al (al + 3) h1' (zup h1' (al + 1 + 1) (20, (ys P (nI i) (nI (rs ++ e0).length)).map Value.int)) := zfr_up (by omega) (by omega)
      have p1 := yP2_s (yP2_app (e := [(nd.1, nd.2.1, x, y)]) hp (by omega)) (ytm_at hwf hnd) (by rw [ha.2.2]; omega) ych_snoc w4
      have hq := zf2_tr (zf2_1 (c := al) (e := al + 3) f1) (zf2_2 (a := o) (b := o + 9) f2)
      rw [List.append_assoc] at w1 w3 p1
      obtain ⟨h', e', P', e3, v1, v2, v3, v4, v5, v6⟩ := ih (i + 1) _ (e0 ++ [(nd.1, nd.2.1, x, y)]) (P.set i (nI (rs ++ e0).length)) (by omega) (by rw [List.length_append]; show e0.length + 1 ≤ _; omega) w3 (zTre_cg hf (zcg_f2 hq (by omega) (by omega))) (zTre_fr w1 f2 (by omega)) a2 p1
      refine ⟨h', e', P', ?_, v1, v2, v3, v4, v5, zf2_tr hq v6⟩
      simp only [zs_92_0, zs_92_2, zs_92_3, zs_92_6, zs_92_8, zs_92_11, zs_92_13, zs_92_14, zs_92_16, zs_92_18, zs_92_19, zs_92_22, zs_92_25, zs_92_26, zs_92_28, zs_92_29, zs_92_32, zs_92_35, zs_92_36, zs_92_39, zs_92_41, zs_92_43, zs_92_46, zs_92_49, zs_92_50, zs_92_53, zs_92_55, zs_92_57, zs_92_58, zs_92_60, zs_92_63, zs_92_64, zs_92_66, zs_92_69, zs_92_70, zs_92_71, zs_92_73, zs_92_76, zs_92_79, zs_92_80, zs_92_81, zs_92_83, zs_92_86, zs_92_89, zs_92_92, zs_92_95, zs_92_102, zs_92_103, zs_92_106, zs_92_109, zTre_rc hf, zTre_rc ho, d_182 hf, if_pos f0, e8, ↓reduceIte, q0, zrc_9, zf_9_0, zp_9_0, zp_9_0n, zAl_rc ha, d_184 hf hnd, d_185 hf hnd, d_186 hf hnd, d_187 hf hnd, ex, ey, e1, zRow_rc a1.2.1, e2, zbk_v, zts_s, zts_n]
      rw [zs_92_98, nI_1', e3]
theorem d_92 {h : zH} {f m o al r mr : Nat} {ns ms rs : List yN} {P : List Int32} {c : Int32} (hwf : ywf ns) (hn : ns.length ≤ 31) (h0 : 0 < ns.length) (hwr : ywf rs) (hr : rs.length ≤ 31) (hr0 : 0 < rs.length) (h1 : f + 9 ≤ o ∨ o + 9 ≤ f) (h2 : f + 9 ≤ al ∨ al + 3 ≤ f) (h3 : o + 9 ≤ al ∨ al + 3 ≤ o) (h4 : o + 9 ≤ r ∨ r + 9 ≤ o) (hf : zTre h f m ns) (hrt : zTre h r mr rs) (ho : zTre h o 124 ms) (ha : zAl h al P) : ∃ h' os' P' x, zcall zP sv (d + 5) 92 [.ref al, .ref f, .int c, .ref r, .ref o] h = some (.inl (some (.int x)), h') ∧ os'.length ≤ 62 ∧ ywf os' ∧ zTre h' o 124 os' ∧ zAl h' al P' ∧ ych os'.length x ∧ ygt (ytm os') x = yins c (ygt (ytm rs) (nI (rs.length - 1))) (ygt (ytm ns) (nI (ns.length - 1))) ∧ zf2 o (o + 9) al (al + 3) h h' := by
  have hl := hwf.1
  obtain ⟨h1', e1, w1, f1⟩ := d_195 (sv := sv) (d := d + 1) ho hrt (by omega) (by omega)
  have hsb : ∀ n, 0 < n → nI n - nI 1 = nI (n - 1) := fun n hn => by
    conv => lhs; rw [show n = n - 1 + 1 by omega, ← nI_add, Int32.add_sub_cancel]
  obtain ⟨h', e', P', e2, v1, v2, v3, v4, v5, v6⟩ := d_92l (sv := sv) (d := d) (c := c) (rp := .val (.ref r)) hwf hn hr hwr (show rs.length - 1 < rs.length by omega) rfl h1 h2 h3 ns.length 0 h1' [] P (Nat.zero_add _) (Nat.zero_le _) (by rw [List.append_nil]; exact hwr) (zTre_fr hf f1 (by omega)) (by rw [List.append_nil]; exact w1) (zAl_fr ha f1 (by omega)) yP2_0
  rw [nI_0] at e2
  have hf' := zTre_cg (zTre_fr hf f1 (by omega)) (zcg_f2 v6 (by omega) (by omega))
  obtain ⟨x, ex, x1, x2⟩ := d_91 (sv := sv) (d := d + 2) v4 v5 (Or.inr ⟨ns.length - 1, by omega, rfl⟩) (Nat.le_refl _) hl rfl
  refine ⟨h', rs ++ e', P', x, ?_, by rw [List.length_append]; omega, v2, v3, v4, x1, x2, zf2_tr (zf2_1 f1) v6⟩
  rw [zc_92]
  simp (disch := exact znw_u) only [zs_92_0, zs_92_2, zs_92_3, zs_92_6, zs_92_8, zs_92_11, zs_92_13, zs_92_14, zs_92_18, zs_92_19, zs_92_22, zs_92_25, zs_92_26, zs_92_28, zs_92_29, zs_92_32, zs_92_35, zs_92_36, zs_92_39, zs_92_41, zs_92_43, zs_92_46, zs_92_49, zs_92_50, zs_92_53, zs_92_55, zs_92_57, zs_92_58, zs_92_60, zs_92_63, zs_92_64, zs_92_66, zs_92_69, zs_92_70, zs_92_71, zs_92_73, zs_92_76, zs_92_79, zs_92_80, zs_92_81, zs_92_83, zs_92_86, zs_92_89, zs_92_92, zs_92_95, zs_92_98, zs_92_101, zs_92_102, zs_92_103, zs_92_106, zs_92_109, zTre_rc ho, e1, zTre_rc w1, d_183 w1, hsb _ hr0, e2, zbk_v, zts_s, zts_n]
  simp only [zs_92_0, zs_92_2, zs_92_3, zs_92_6, zs_92_8, zs_92_11, zs_92_13, zs_92_14, zs_92_16, zs_92_18, zs_92_19, zs_92_22, zs_92_25, zs_92_26, zs_92_28, zs_92_29, zs_92_32, zs_92_35, zs_92_36, zs_92_39, zs_92_41, zs_92_43, zs_92_46, zs_92_49, zs_92_50, zs_92_53, zs_92_55, zs_92_57, zs_92_58, zs_92_60, zs_92_63, zs_92_64, zs_92_66, zs_92_69, zs_92_70, zs_92_71, zs_92_73, zs_92_76, zs_92_79, zs_92_80, zs_92_81, zs_92_83, zs_92_86, zs_92_89, zs_92_92, zs_92_95, zs_92_98, zs_92_101, zs_92_102, zs_92_103, zs_92_106, zs_92_109, zTre_rc hf', d_183 hf', hsb _ h0, zAl_rc v4, ex, zbk_v, zts_s]
end ZDR

def ychr (x : Int32) : Prop := zty 7 (.int x) = true
def ycat (cs : List Int32) (i : Nat) : Int32 := cs.getD i (nI 32)
/-- the input buffer at q; cs: what it holds -/
def zInp (h : zH) (q : Nat) (cs : List Int32) : Prop := h.1 q = (8, [.ref (q + 1), .int (nI cs.length)]) ∧ (∃ B : List Int32, h.1 (q + 1) = (21, B.map Value.int) ∧ B.length = 60 ∧ B.take cs.length = cs) ∧ cs.length ≤ 60 ∧ ∀ x, x ∈ cs → ychr x
theorem zInp_rc {h : zH} {q : Nat} {cs : List Int32} {X : zR} (hi : zInp h q cs) : zrc (h.1 q) 8 X = X := by
  rw [hi.1]
  exact zrc_k
theorem zInp_cg {h h' : zH} {q : Nat} {cs : List Int32} (hi : zInp h q cs) (hf : zcg q (q + 2) h h') : zInp h' q cs := by
  obtain ⟨h1, ⟨B, h2, h3⟩, h4⟩ := hi
  exact ⟨by rw [hf q (by omega) (by omega), h1], ⟨B, by rw [hf (q + 1) (by omega) (by omega), h2], h3⟩, h4⟩
theorem ycat_chr {cs : List Int32} (hc : ∀ x, x ∈ cs → ychr x) (i : Nat) : ychr (ycat cs i) := by
  unfold ycat
  rw [List.getD_eq_getElem?_getD]
  cases h : cs[i]? with
  | none => exact (by decide +kernel : zty 7 (.int (nI 32)) = true)
  | some x => exact hc x (List.mem_of_getElem? h)
/-- the parser at p -/
def zPar (h : zH) (p : Nat) (cs : List Int32) (pos : Nat) (ns : List yN) : Prop := h.1 p = (7, [.ref (p + 1), .ref (p + 3), .int (nI pos)]) ∧ zInp h (p + 1) cs ∧ zTre h (p + 3) 60 ns
theorem zPar_rc {h : zH} {p pos : Nat} {cs : List Int32} {ns : List yN} {X : zR} (hp : zPar h p cs pos ns) : zrc (h.1 p) 7 X = X := by
  rw [hp.1]
  exact zrc_k
theorem zPar_pos {h : zH} {p pos pos' : Nat} {cs : List Int32} {ns : List yN} (hp : zPar h p cs pos ns) : zPar (zup h p (7, [.ref (p + 1), .ref (p + 3), .int (nI pos')])) p cs pos' ns := ⟨zup_at, zInp_cg hp.2.1 (fun q a b => zup_ne (by omega)), zTre_fr hp.2.2 (zfr_up (lo := p) (hi := p + 1) (by omega) (by omega)) (by omega)⟩
theorem zPar_tree {h h' : zH} {p pos : Nat} {cs : List Int32} {ns ns' : List yN} (hp : zPar h p cs pos ns) (hf : zfr (p + 3) (p + 3 + 9) h h') (ht : zTre h' (p + 3) 60 ns') : zPar h' p cs pos ns' := ⟨by rw [hf.1 p (by omega), hp.1], zInp_cg hp.2.1 (zcg_fr hf (by omega)), ht⟩
theorem zPar_cg {h h' : zH} {p pos : Nat} {cs : List Int32} {ns : List yN} (hp : zPar h p cs pos ns) (hf : zcg p (p + 12) h h') : zPar h' p cs pos ns := ⟨by rw [hf p (by omega) (by omega), hp.1], zInp_cg hp.2.1 (zcg_mono hf (by omega) (by omega)), zTre_cg hp.2.2 (zcg_mono hf (by omega) (by omega))⟩
def yisd (c : Int32) : Bool := decide (¬ c < nI 48) && decide (¬ nI 57 < c)
theorem ylt_f {x y : Int32} (h : ¬ x < y) : (x < y) = False := by simp [h]
section ZDS
variable {sv : Nat → Value} {d : Nat} {h : zH}
theorem d_141 {q i : Nat} {cs : List Int32} (hi : zInp h q cs) (hl : i < 2 ^ 31) : zcall zP sv (d + 1) 141 [.ref q, .int (nI i)] h = some (.inl (some (.int (ycat cs i))), h) := by
  have hc := ycat_chr hi.2.2.2 i
  obtain ⟨h1, ⟨B, h2, h3, h4⟩, h5, h6⟩ := hi
  have g1 : ¬ nI i < 0 := nI_pos hl
  by_cases h7 : i < cs.length
  · have hx : cs[i]? = some (ycat cs i) := by
      unfold ycat
      rw [List.getD_eq_getElem?_getD, List.getElem?_eq_getElem h7]; rfl
    have hB := ytk_at h4 hx
    have g2 : nI i < nI cs.length := nI_lt h7 (by omega)
    have g3 : nI i < nI 60 := nI_lt (by omega) (by decide)
    have e1 : ∀ K : Value → zR, zael (21, B.map Value.int) 21 (nI i) K = K (.int (ycat cs i)) := fun K => zaelv (by rw [List.getElem?_map, hB]; rfl) hl
    have e2 : zty 7 (.int (ycat cs i)) = true := hc
    simp only [zc_141, zs_141_0, zs_141_1, zs_141_4, zs_141_5, zs_141_6, zs_141_9, zs_141_12, zs_141_13, zs_141_14, zs_141_17, zs_141_18, zs_141_21, zs_141_22, zs_141_25, zs_141_26, zs_141_27, zs_141_30, zs_141_32, if_neg g1, h1, zrc_8, zf_8_0, zp_8_0, zp_8_0n, zf_8_1, zp_8_1, if_pos g2, h2, zaln_k (show 20 ≤ 21 by decide), List.length_map, h3, if_pos g3, e1, e2, zgd_t]
  · have g2 : ¬ nI i < nI cs.length := nI_nlt (by omega) hl
    have e3 : ycat cs i = nI 32 := by
      unfold ycat
      rw [List.getD_eq_getElem?_getD, List.getElem?_eq_none (by omega)]; rfl
    have e2 : zty 7 (.int (nI 32)) = true := by decide +kernel
    simp only [zc_141, zs_141_0, zs_141_1, zs_141_4, zs_141_5, zs_141_6, zs_141_9, zs_141_12, zs_141_13, zs_141_14, zs_141_17, zs_141_18, zs_141_21, zs_141_22, zs_141_25, zs_141_26, zs_141_27, zs_141_30, zs_141_32, if_neg g1, h1, zrc_8, zf_8_0, zp_8_0, zp_8_0n, zf_8_1, zp_8_1, if_neg g2, e3, e2, zgd_t]
theorem d_138 {q : Nat} {cs : List Int32} (hi : zInp h q cs) : zcall zP sv (d + 1) 138 [.ref q] h = some (.inl (some (.int (nI cs.length))), h) := by
  simp only [zc_138, zs_138_0, zs_138_1, zs_138_4, hi.1, zrc_8, zf_8_0, zp_8_0, zp_8_0n, zf_8_1, zp_8_1]
theorem d_140 {q : Nat} {cs : List Int32} (hi : zInp h q cs) : ∃ h', zcall zP sv (d + 1) 140 [.ref q] h = some (.inl none, h') ∧ zInp h' q [] ∧ zfr q (q + 1) h h' := by
  obtain ⟨h1, ⟨B, h2, h3, h4⟩, h5, h6⟩ := hi
  refine ⟨zup h q (8, [.ref (q + 1), .int 0]), ?_, ⟨by rw [zup_at, List.length_nil, nI_0], ⟨B, by rw [zup_ne (by omega), h2], h3, rfl⟩, by decide, fun x hx => by cases hx⟩, zfr_up (by omega) (by omega)⟩
  simp only [zc_140, zs_140_0, zs_140_1, zs_140_2, zs_140_5, h1, zrc_8, zf_8_0, zp_8_0, zp_8_0n, zf_8_1, zp_8_1]
theorem d_160 {p pos : Nat} {cs : List Int32} {ns : List yN} (hp : zPar h p cs pos ns) (hl : pos < 100) : ∃ h', zcall zP sv (d + 2) 160 [.ref p] h = some (.inl (some (.int (ycat cs pos))), h') ∧ zPar h' p cs (pos + 1) ns ∧ zfr p (p + 12) h h' := by
  have e2 : zty 7 (.int (ycat cs pos)) = true := ycat_chr hp.2.1.2.2.2 pos
  have h0 := hp.1
  refine ⟨_, ?_, zPar_pos (pos' := pos + 1) hp, zfr_up (by omega) (by omega)⟩
  simp (disch := exact znw_u) only [zc_160, zs_160_0, zs_160_1, zs_160_4, zs_160_5, zs_160_8, zs_160_11, zs_160_12, zs_160_13, zs_160_14, zs_160_17, zs_160_18, zs_160_19, zs_160_22, zs_160_23, h0, zrc_7, zf_7_0, zp_7_0, zp_7_0n, zf_7_1, zp_7_1, zp_7_1n, zf_7_2, zp_7_2, zInp_rc hp.2.1, d_141 hp.2.1 (show pos < 2 ^ 31 by omega), nI_1', e2, zgd_t, zbk_v, zts_s]
theorem d_161 {p pos : Nat} {cs : List Int32} {ns : List yN} (hp : zPar h p cs pos ns) (hl : pos < 100) : ∃ h', zcall zP sv (d + 2) 161 [.ref p] h = some (.inl (some (.int (ycat cs pos - nI 48))), h') ∧ zPar h' p cs (pos + 1) ns ∧ zfr p (p + 12) h h' := by
  have h0 := hp.1
  refine ⟨_, ?_, zPar_pos (pos' := pos + 1) hp, zfr_up (by omega) (by omega)⟩
  simp (disch := exact znw_u) only [zc_161, zs_161_0, zs_161_1, zs_161_4, zs_161_5, zs_161_8, zs_161_11, zs_161_13, zs_161_14, zs_161_15, zs_161_16, zs_161_17, zs_161_20, zs_161_21, zs_161_22, zs_161_25, zs_161_26, h0, zrc_7, zf_7_0, zp_7_0, zp_7_0n, zf_7_1, zp_7_1, zp_7_1n, zf_7_2, zp_7_2, zInp_rc hp.2.1, d_141 hp.2.1 (show pos < 2 ^ 31 by omega), nI_1', zbk_v, zts_s]
theorem d_162 {p pos : Nat} {cs : List Int32} {ns : List yN} (hp : zPar h p cs pos ns) (hl : pos < 100) : zcall zP sv (d + 2) 162 [.ref p] h = some (.inl (some (.int (yb (yisd (ycat cs pos))))), h) := by
  have h0 := hp.1
  unfold yisd
  by_cases h1 : ycat cs pos < nI 48
  · simp (disch := exact znw_u) only [zc_162, zs_162_0, zs_162_1, zs_162_4, zs_162_5, zs_162_8, zs_162_11, zs_162_12, zs_162_13, zs_162_15, zs_162_18, zs_162_19, zs_162_21, zs_162_24, zs_162_25, zs_162_28, zs_162_29, h0, zrc_7, zf_7_0, zp_7_0, zp_7_0n, zf_7_1, zp_7_1, zp_7_1n, zf_7_2, zp_7_2, zInp_rc hp.2.1, d_141 hp.2.1 (show pos < 2 ^ 31 by omega), zty_50, zgd_t, zbk_v, zts_s, h1, not_true, decide_false, Bool.false_and, yb_f, ↓reduceIte]
  · by_cases h2 : nI 57 < ycat cs pos
    · simp (disch := exact znw_u) only [zc_162, zs_162_0, zs_162_1, zs_162_4, zs_162_5, zs_162_8, zs_162_11, zs_162_12, zs_162_13, zs_162_15, zs_162_18, zs_162_19, zs_162_21, zs_162_24, zs_162_25, zs_162_28, zs_162_29, h0, zrc_7, zf_7_0, zp_7_0, zp_7_0n, zf_7_1, zp_7_1, zp_7_1n, zf_7_2, zp_7_2, zInp_rc hp.2.1, d_141 hp.2.1 (show pos < 2 ^ 31 by omega), ylt_f h1, zty_50, zgd_t, zbk_v, zts_s, h2, not_true, decide_false, Bool.and_false, yb_f, ↓reduceIte]
    · simp (disch := exact znw_u) only [zc_162, zs_162_0, zs_162_1, zs_162_4, zs_162_5, zs_162_8, zs_162_11, zs_162_12, zs_162_13, zs_162_15, zs_162_18, zs_162_19, zs_162_21, zs_162_24, zs_162_25, zs_162_28, zs_162_29, h0, zrc_7, zf_7_0, zp_7_0, zp_7_0n, zf_7_1, zp_7_1, zp_7_1n, zf_7_2, zp_7_2, zInp_rc hp.2.1, d_141 hp.2.1 (show pos < 2 ^ 31 by omega), zty_51, zgd_t, zbk_v, zts_s, ylt_f h1, ylt_f h2, not_false_eq_true, decide_true, Bool.and_self, yb_t, ↓reduceIte]
theorem d_163 {p pos : Nat} {cs : List Int32} {ns : List yN} {a b : Int32} (hp : zPar h p cs pos ns) (hl : pos < 100) : zcall zP sv (d + 2) 163 [.ref p, .int a, .int b] h = some (.inl (some (.int (yb (decide (ycat cs pos = a) || decide (ycat cs pos = b))))), h) := by
  have h0 := hp.1
  by_cases h1 : ycat cs pos = a
  · simp (disch := exact znw_u) only [zc_163, zs_163_0, zs_163_1, zs_163_4, zs_163_5, zs_163_8, zs_163_11, zs_163_12, zs_163_13, zs_163_14, zs_163_17, zs_163_18, zs_163_19, zs_163_22, zs_163_23, zs_163_26, zs_163_27, h0, zrc_7, zf_7_0, zp_7_0, zp_7_0n, zf_7_1, zp_7_1, zp_7_1n, zf_7_2, zp_7_2, zInp_rc hp.2.1, d_141 hp.2.1 (show pos < 2 ^ 31 by omega), if_pos h1, zty_51, zgd_t, zbk_v, zts_s, decide_eq_true h1, Bool.true_or, yb_t]
  · by_cases h2 : ycat cs pos = b
    · simp (disch := exact znw_u) only [zc_163, zs_163_0, zs_163_1, zs_163_4, zs_163_5, zs_163_8, zs_163_11, zs_163_12, zs_163_13, zs_163_14, zs_163_17, zs_163_18, zs_163_19, zs_163_22, zs_163_23, zs_163_26, zs_163_27, h0, zrc_7, zf_7_0, zp_7_0, zp_7_0n, zf_7_1, zp_7_1, zp_7_1n, zf_7_2, zp_7_2, zInp_rc hp.2.1, d_141 hp.2.1 (show pos < 2 ^ 31 by omega), if_neg h1, if_pos h2, zty_51, zgd_t, zbk_v, zts_s, decide_eq_true h2, Bool.or_true, yb_t]
    · simp (disch := exact znw_u) only [zc_163, zs_163_0, zs_163_1, zs_163_4, zs_163_5, zs_163_8, zs_163_11, zs_163_12, zs_163_13, zs_163_14, zs_163_17, zs_163_18, zs_163_19, zs_163_22, zs_163_23, zs_163_26, zs_163_27, h0, zrc_7, zf_7_0, zp_7_0, zp_7_0n, zf_7_1, zp_7_1, zp_7_1n, zf_7_2, zp_7_2, zInp_rc hp.2.1, d_141 hp.2.1 (show pos < 2 ^ 31 by omega), if_neg h1, if_neg h2, zty_50, zgd_t, zbk_v, zts_s, decide_eq_false h1, decide_eq_false h2, Bool.or_self, yb_f]
theorem d_159 {p pos : Nat} {cs : List Int32} {ns : List yN} (hp : zPar h p cs pos ns) (hl : pos < 80) (hn : ns.length < 60) : ∃ h' , zcall zP sv (d + 4) 159 [.ref p] h = some (.inl (some (.int (nI ns.length))), h') ∧ zPar h' p cs (pos + 1 + (if yisd (ycat cs (pos + 1)) = true then 1 else 0)) (ns ++ [(nI 99, (if yisd (ycat cs (pos + 1)) = true then nI 10 * (ycat cs pos - nI 48) + (ycat cs (pos + 1) - nI 48) else ycat cs pos - nI 48), -1, -1)]) ∧ zfr p (p + 12) h h' := by
  obtain ⟨h1, e1, w1, f1⟩ := d_161 (sv := sv) (d := d + 1) hp (by omega)
  have e2 := d_162 (sv := sv) (d := d + 1) w1 (by omega)
  cases h3 : yisd (ycat cs (pos + 1)) with
  | true =>
    rw [h3] at e2
    obtain ⟨h2, e4, w2, f2⟩ := d_161 (sv := sv) (d := d + 1) w1 (by omega)
    obtain ⟨h4, e5, w3, f3⟩ := d_192 (sv := sv) (d := d) (x := nI 10 * (ycat cs pos - nI 48) + (ycat cs (pos + 1) - nI 48)) w2.2.2 hn
    refine ⟨h4, ?_, zPar_tree w2 f3 w3, zfr_tr (zfr_tr f1 f2) (zfr_mono f3 (by omega) (by omega))⟩
    have h0 := w2.1
    simp (disch := first | exact znw_u | exact znw_i) only [zc_159, zs_159_0, zs_159_1, zs_159_4, zs_159_5, zs_159_6, zs_159_9, zs_159_12, zs_159_14, zs_159_15, zs_159_16, zs_159_17, zs_159_20, zs_159_21, zs_159_22, zs_159_23, zs_159_26, zs_159_27, zs_159_30, zPar_rc hp, zPar_rc w1, e1, e2, yb_t, nI_1e0, e4, h0, zrc_7, zf_7_0, zp_7_0, zp_7_0n, zf_7_1, zp_7_1, zp_7_1n, zf_7_2, zp_7_2, zTre_rc w2.2.2, e5, zbk_v, zts_s, ↓reduceIte]
  | false =>
    rw [h3] at e2
    obtain ⟨h4, e5, w3, f3⟩ := d_192 (sv := sv) (d := d) (x := ycat cs pos - nI 48) w1.2.2 hn
    refine ⟨h4, ?_, zPar_tree w1 f3 w3, zfr_tr f1 (zfr_mono f3 (by omega) (by omega))⟩
    have h0 := w1.1
    simp (disch := first | exact znw_u | exact znw_i) only [zc_159, zs_159_0, zs_159_1, zs_159_4, zs_159_5, zs_159_6, zs_159_9, zs_159_12, zs_159_14, zs_159_15, zs_159_16, zs_159_17, zs_159_20, zs_159_21, zs_159_22, zs_159_23, zs_159_26, zs_159_27, zs_159_30, zPar_rc hp, zPar_rc w1, e1, e2, yb_f, h0, zrc_7, zf_7_0, zp_7_0, zp_7_0n, zf_7_1, zp_7_1, zp_7_1n, zf_7_2, zp_7_2, zTre_rc w1.2.2, e5, zbk_v, zts_s, ↓reduceIte]
theorem d_155n {p pos : Nat} {cs : List Int32} {ns : List yN} {k x : Int32} (hp : zPar h p cs pos ns) : zcall zP sv (d + 4) 155 [.ref p, .int k, .int x, .int (-1)] h = some (.inl (some (.int (-1))), h) := by
  simp only [zc_155, zs_155_0, zs_155_1, zs_155_2, zs_155_5, zs_155_6, zs_155_9, zs_155_10, zs_155_13, zs_155_14, zs_155_15, zs_155_16, zs_155_19, nI_m1e, ↓reduceIte]
theorem d_155 {p pos : Nat} {cs : List Int32} {ns : List yN} {k x y : Int32} (hp : zPar h p cs pos ns) (hn : ns.length < 60) (hy : ¬ y = -1) : ∃ h', zcall zP sv (d + 4) 155 [.ref p, .int k, .int x, .int y] h = some (.inl (some (.int (nI ns.length))), h') ∧ zPar h' p cs pos (ns ++ [(k, 0, x, y)]) ∧ zfr p (p + 12) h h' := by
  obtain ⟨h', e, w, f⟩ := d_194 (sv := sv) (d := d) (k := k) (x := x) (y := y) hp.2.2 hn
  have h0 := hp.1
  refine ⟨h', ?_, zPar_tree hp f w, zfr_mono f (by omega) (by omega)⟩
  simp only [zc_155, zs_155_0, zs_155_1, zs_155_2, zs_155_5, zs_155_6, zs_155_9, zs_155_10, zs_155_13, zs_155_14, zs_155_15, zs_155_16, zs_155_19, if_neg hy, h0, zrc_7, zf_7_0, zp_7_0, zp_7_0n, zf_7_1, zp_7_1, zp_7_1n, zf_7_2, zp_7_2, zTre_rc hp.2.2, e, zbk_v, zts_s]
end ZDS

/-- the text's grammar: what is read (0 a sum, 1 on from a sum's operand, 2 a product, 3 on from its operand, 4 a factor), with fuel; the term or none, and the place reached -/
def yng (cs : List Int32) : Nat → Nat → Nat
  | _, 0 => 0
  | pos, k + 1 => if ycat cs pos = nI 45 then yng cs (pos + 1) k + 1 else 0
def ywr : Nat → yT → yT
  | 0, t => t
  | n + 1, t => ywr n (ymk (nI 110) 0 t .leaf)
def ylet (c : Int32) : Bool := decide (¬ c < nI 97) && decide (¬ nI 102 < c)
def ynum2 (cs : List Int32) (p : Nat) : Option yT × Nat := if yisd (ycat cs (p + 1)) = true then (some (ycn (nI 10 * (ycat cs p - nI 48) + (ycat cs (p + 1) - nI 48))), p + 2) else (some (ycn (ycat cs p - nI 48)), p + 1)
def ypa (cs : List Int32) : Nat → Nat → Option yT → Nat → Nat → Option yT × Nat
  | 0, _, _, _, pos => (none, pos)
  | f + 1, m, a, op, pos =>
    if m = 0 then ypa cs f 1 (ypa cs f 2 none op pos).1 op (ypa cs f 2 none op pos).2
    else if m = 1 then (match a with
      | none => (none, pos)
      | some t => if ycat cs pos = nI 43 ∨ ycat cs pos = nI 45 then ypa cs f 1 ((ypa cs f 2 none op (pos + 1)).1.map (fun u => ymk (ycat cs pos) 0 t u)) op (ypa cs f 2 none op (pos + 1)).2 else (some t, pos))
    else if m = 2 then ypa cs f 3 (ypa cs f 4 none op pos).1 op (ypa cs f 4 none op pos).2
    else if m = 3 then (match a with
      | none => (none, pos)
      | some t => if ycat cs pos = nI 42 then ypa cs f 3 ((ypa cs f 4 none op (pos + 1)).1.map (fun u => ymk (ycat cs pos) 0 t u)) op (ypa cs f 4 none op (pos + 1)).2 else (some t, pos))
    else
      let n := yng cs pos 6
      let p := pos + n
      let r : Option yT × Nat := if ycat cs p = nI 40 ∧ op < 6 then (if (ypa cs f 0 none (op + 1) (p + 1)).1.isSome = true ∧ ycat cs (ypa cs f 0 none (op + 1) (p + 1)).2 = nI 41 then ((ypa cs f 0 none (op + 1) (p + 1)).1, (ypa cs f 0 none (op + 1) (p + 1)).2 + 1) else (none, (ypa cs f 0 none (op + 1) (p + 1)).2))
        else if ylet (ycat cs p) = true then (some (ymk (nI 118) (ycat cs p) .leaf .leaf), p + 1)
        else if yisd (ycat cs p) = true then ynum2 cs p else (none, p)
      (r.1.map (ywr n), r.2)
/-- an index stands for a term, or is -1 for none -/
def yis1 (ns : List yN) (x : Int32) : Option yT → Prop
  | none => x = -1
  | some t => ¬ x = -1 ∧ ych ns.length x ∧ ygt (ytm ns) x = t
def zPR (h : zH) (p : Nat) (cs : List Int32) (pos : Nat) (ns : List yN) (res : zR) (r : Option yT × Nat) : Prop := ∃ h' e x, res = some (.inl (some (.int x)), h') ∧ zPar h' p cs r.2 (ns ++ e) ∧ e.length + pos ≤ r.2 ∧ ywf (ns ++ e) ∧ r.2 ≤ cs.length ∧ zfr p (p + 12) h h' ∧ yis1 (ns ++ e) x r.1
theorem ycat_ge {cs : List Int32} {i : Nat} (h : cs.length ≤ i) : ycat cs i = nI 32 := by
  unfold ycat
  rw [List.getD_eq_getElem?_getD, List.getElem?_eq_none (by omega)]; rfl
theorem ycat_lt {cs : List Int32} {i : Nat} (h : ¬ ycat cs i = nI 32) : i < cs.length := by
  by_cases h1 : i < cs.length
  · exact h1
  · exact absurd (ycat_ge (by omega)) h
theorem y32 : ¬ (nI 32 : Int32) = nI 43 ∧ ¬ (nI 32 : Int32) = nI 45 ∧ ¬ (nI 32 : Int32) = nI 42 ∧ ¬ (nI 32 : Int32) = nI 40 ∧ ¬ (nI 32 : Int32) = nI 41 ∧ ylet (nI 32) = false ∧ yisd (nI 32) = false := by decide +kernel
theorem yng_le {cs : List Int32} : ∀ k pos, yng cs pos k ≤ k
  | 0, _ => Nat.le_refl _
  | k + 1, pos => by
    unfold yng
    split
    · have := yng_le (cs := cs) k (pos + 1)
      omega
    · exact Nat.zero_le _
theorem yng_len {cs : List Int32} : ∀ k pos, pos ≤ cs.length → pos + yng cs pos k ≤ cs.length
  | 0, _, h => h
  | k + 1, pos, h => by
    unfold yng
    split
    · rename_i h1
      have h2 : pos < cs.length := ycat_lt (fun h3 => y32.2.1 (h3.symm.trans h1))
      have := yng_len (cs := cs) k (pos + 1) h2
      omega
    · exact h
section ZDT
variable {sv : Nat → Value} {d : Nat} {p : Nat} {cs : List Int32} {ns : List yN}
theorem d_156a {op : Int32} {s3 s4 : Slot} : ∀ k n pos (h : zH), n + k = 6 → zPar h p cs pos ns → pos ≤ cs.length → ∃ h', zrun zP sv (zcall zP sv (d + 1)) 156 2 [.val (.ref p), .val (.int op), .val (.int (nI n)), s3, s4] [] h = zrun zP sv (zcall zP sv (d + 1)) 156 40 [.val (.ref p), .val (.int op), .val (.int (nI (n + yng cs pos k))), s3, s4] [] h' ∧ zPar h' p cs (pos + yng cs pos k) ns ∧ zfr p (p + 12) h h' := by
  intro k
  induction k with
  | zero =>
    intro n pos h hn hp hl
    refine ⟨h, ?_, hp, zfr_rfl⟩
    obtain rfl : n = 6 := by omega
    rw [zs_156_2, zs_156_3, zs_156_5, if_neg (nI_nlt (Nat.le_refl _) (by decide))]
    rfl
  | succ k ih =>
    intro n pos h hn hp hl
    have h0 := hp.1
    have h60 := hp.2.1.2.2.1
    unfold yng
    by_cases h1 : ycat cs pos = nI 45
    · have h2 : pos < cs.length := ycat_lt (fun h3 => y32.2.1 (h3.symm.trans h1))
      have w := zPar_pos (pos' := pos + 1) hp
      have f1 : zfr p (p + 12) h (zup h p (7, [.ref (p + 1), .ref (p + 3), .int (nI (pos + 1))])) := zfr_up (by omega) (by omega)
      obtain ⟨h', e, w2, f2⟩ := ih (n + 1) (pos + 1) _ (by omega) w h2
      rw [if_pos h1]
      refine ⟨h', ?_, by rw [show pos + (yng cs (pos + 1) k + 1) = pos + 1 + yng cs (pos + 1) k by omega]; exact w2, zfr_tr f1 f2⟩
      rw [zs_156_2, zs_156_3, zs_156_5, if_pos (nI_lt (by omega) (by decide))]
      simp only [zs_156_0, zs_156_1, zs_156_3, zs_156_5, zs_156_8, zs_156_9, zs_156_12, zs_156_13, zs_156_16, zs_156_19, zs_156_21, zs_156_24, zs_156_27, zs_156_28, zs_156_29, zs_156_32, zs_156_33, zs_156_34, zs_156_41, zs_156_42, zs_156_45, zs_156_46, zs_156_47, zs_156_49, zs_156_51, zs_156_52, zs_156_55, zs_156_56, zs_156_57, zs_156_60, zs_156_61, zs_156_64, zs_156_65, zs_156_68, zs_156_69, zs_156_72, zs_156_75, zs_156_76, h0, zrc_7, zf_7_0, zp_7_0, zp_7_0n, zf_7_1, zp_7_1, zp_7_1n, zf_7_2, zp_7_2, zInp_rc hp.2.1, d_141 hp.2.1 (show pos < 2 ^ 31 by omega), if_pos h1, nI_1', zbk_v, zts_s]
      rw [zs_156_37, e, show n + (yng cs (pos + 1) k + 1) = n + 1 + yng cs (pos + 1) k by omega]
    · rw [if_neg h1]
      refine ⟨h, ?_, hp, zfr_rfl⟩
      rw [zs_156_2, zs_156_3, zs_156_5, if_pos (nI_lt (by omega) (by decide))]
      simp only [zs_156_0, zs_156_1, zs_156_3, zs_156_5, zs_156_8, zs_156_9, zs_156_12, zs_156_13, zs_156_16, zs_156_19, zs_156_21, zs_156_24, zs_156_27, zs_156_28, zs_156_29, zs_156_32, zs_156_33, zs_156_34, zs_156_41, zs_156_42, zs_156_45, zs_156_46, zs_156_47, zs_156_49, zs_156_51, zs_156_52, zs_156_55, zs_156_56, zs_156_57, zs_156_60, zs_156_61, zs_156_64, zs_156_65, zs_156_68, zs_156_69, zs_156_72, zs_156_75, zs_156_76, h0, zrc_7, zf_7_0, zp_7_0, zp_7_0n, zf_7_1, zp_7_1, zp_7_1n, zf_7_2, zp_7_2, zInp_rc hp.2.1, d_141 hp.2.1 (show pos < 2 ^ 31 by omega), if_neg h1, zbk_v, zts_s, Nat.add_zero]
theorem d_156b {op : Int32} {n pos : Nat} (hn6 : n ≤ 6) : ∀ j k (h : zH) (e : List yN) (x : Int32) (t : yT), k + j = n → zPar h p cs pos (ns ++ e) → ywf (ns ++ e) → (ns ++ e).length + j ≤ 60 → yis1 (ns ++ e) x (some t) → ∃ h' e' x', zrun zP sv (zcall zP sv (d + 3)) 156 49 [.val (.ref p), .val (.int op), .val (.int (nI n)), .val (.int x), .val (.int (nI k))] [] h = some (.inl (some (.int x')), h') ∧ zPar h' p cs pos (ns ++ e') ∧ e'.length = e.length + j ∧ ywf (ns ++ e') ∧ zfr p (p + 12) h h' ∧ yis1 (ns ++ e') x' (some (ywr j t)) := by
  intro j
  induction j with
  | zero =>
    intro k h e x t hk hp hw hl hx
    obtain rfl : k = n := by omega
    have hl2 : k < 2 ^ 31 ∨ True := Or.inr trivial
    refine ⟨h, e, x, ?_, hp, rfl, hw, zfr_rfl, hx⟩
    rw [zs_156_49, zs_156_51, zs_156_52, if_neg Int32.lt_irrefl, zs_156_75, zs_156_76]
  | succ j ih =>
    intro k h e x t hk hp hw hl hx
    have h0 := hp.1
    have hlen : (ns ++ e).length = ns.length + e.length := List.length_append
    obtain ⟨h1, e1, w1, f1⟩ := d_193 (sv := sv) (d := d) (x := x) hp.2.2 (by omega)
    have p1 := zPar_tree hp f1 w1
    rw [List.append_assoc] at p1
    have z1 := ywf_snoc (nd := (nI 110, 0, x, -1)) hw hx.2.1 ych_n (by omega)
    have t1 : yis1 (ns ++ e ++ [(nI 110, 0, x, -1)]) (nI (ns ++ e).length) (some (ymk (nI 110) 0 t .leaf)) := ⟨nI_nm1 (by omega), ych_snoc, by rw [ygt_new (by omega), hx.2.2, ygt_n]⟩
    rw [List.append_assoc] at z1 t1
    obtain ⟨h', e', x', e2, p2, l2, z2, f2, t2⟩ := ih (k + 1) h1 (e ++ [(nI 110, 0, x, -1)]) (nI (ns ++ e).length) _ (by omega) p1 z1 (by rw [← List.append_assoc, List.length_append]; show (ns ++ e).length + 1 + j ≤ 60; omega) t1
    refine ⟨h', e', x', ?_, p2, by rw [l2, List.length_append]; show e.length + 1 + j = _; omega, z2, zfr_tr (zfr_mono f1 (by omega) (by omega)) f2, t2⟩
    have g1 : nI k < nI n := nI_lt (by omega) (by omega)
    rw [zs_156_49, zs_156_51, zs_156_52, if_pos g1]
    simp (disch := first | exact znw_u | exact znw_i) only [zs_156_0, zs_156_1, zs_156_2, zs_156_3, zs_156_5, zs_156_8, zs_156_9, zs_156_12, zs_156_13, zs_156_16, zs_156_19, zs_156_21, zs_156_24, zs_156_27, zs_156_28, zs_156_29, zs_156_32, zs_156_33, zs_156_34, zs_156_37, zs_156_40, zs_156_41, zs_156_42, zs_156_45, zs_156_46, zs_156_47, zs_156_51, zs_156_52, zs_156_55, zs_156_56, zs_156_57, zs_156_60, zs_156_61, zs_156_64, zs_156_65, zs_156_68, zs_156_69, zs_156_76, if_neg hx.1, h0, zrc_7, zf_7_0, zp_7_0, zp_7_0n, zf_7_1, zp_7_1, zp_7_1n, zf_7_2, zp_7_2, zTre_rc hp.2.2, e1, nI_1', zbk_v, zts_s]
    rw [zs_156_72, e2]
end ZDT

def ymu (m op pos : Nat) : Nat := 400 * (7 - op) + 5 * (61 - pos) + m
def yPA (sv : Nat → Value) (p : Nat) (cs : List Int32) (f m o K c : Nat) : Prop := ∀ (op pos : Nat) (h : zH) (ns : List yN) (D : Nat), ymu o op pos < f → 5 * (7 - op) + c ≤ D → op ≤ 6 → zPar h p cs pos ns → ywf ns → ns.length ≤ pos → pos ≤ cs.length → zPR h p cs pos ns (zcall zP sv D K [.ref p, .int (nI op)] h) (ypa cs f m none op pos)
def yPL (sv : Nat → Value) (p : Nat) (cs : List Int32) (f m o K c : Nat) : Prop := ∀ (op pos k : Nat) (h : zH) (ns : List yN) (D : Nat) (x : Int32) (a : Option yT) (s4 : Slot), znw s4 = true → ymu o op pos < f → 5 * (7 - op) + c ≤ D → op ≤ 6 → zPar h p cs pos ns → ywf ns → ns.length ≤ pos → pos ≤ cs.length → k ≤ pos → yis1 ns x a → zPR h p cs pos ns (zrun zP sv (zcall zP sv D) K 8 [.val (.ref p), .val (.int (nI op)), .val (.int x), .val (.int (nI k)), s4] [] h) (ypa cs f m a op pos)
theorem ypa_0 {cs : List Int32} {f op pos : Nat} {a : Option yT} : ypa cs (f + 1) 0 a op pos = ypa cs f 1 (ypa cs f 2 none op pos).1 op (ypa cs f 2 none op pos).2 := by
  conv => lhs; unfold ypa
  rfl
theorem ypa_2 {cs : List Int32} {f op pos : Nat} {a : Option yT} : ypa cs (f + 1) 2 a op pos = ypa cs f 3 (ypa cs f 4 none op pos).1 op (ypa cs f 4 none op pos).2 := by
  conv => lhs; unfold ypa
  rfl
theorem ypa_1n {cs : List Int32} {f op pos : Nat} : ypa cs (f + 1) 1 none op pos = (none, pos) := by
  conv => lhs; unfold ypa
  rfl
theorem ypa_3n {cs : List Int32} {f op pos : Nat} : ypa cs (f + 1) 3 none op pos = (none, pos) := by
  conv => lhs; unfold ypa
  rfl
theorem ypa_1s {cs : List Int32} {f op pos : Nat} {t : yT} : ypa cs (f + 1) 1 (some t) op pos = if ycat cs pos = nI 43 ∨ ycat cs pos = nI 45 then ypa cs f 1 ((ypa cs f 2 none op (pos + 1)).1.map (fun u => ymk (ycat cs pos) 0 t u)) op (ypa cs f 2 none op (pos + 1)).2 else (some t, pos) := by
  conv => lhs; unfold ypa
  rfl
theorem ypa_3s {cs : List Int32} {f op pos : Nat} {t : yT} : ypa cs (f + 1) 3 (some t) op pos = if ycat cs pos = nI 42 then ypa cs f 3 ((ypa cs f 4 none op (pos + 1)).1.map (fun u => ymk (ycat cs pos) 0 t u)) op (ypa cs f 4 none op (pos + 1)).2 else (some t, pos) := by
  conv => lhs; unfold ypa
  rfl
theorem zPR_tr {h h1 : zH} {p pos pos1 : Nat} {cs : List Int32} {ns e : List yN} {res : zR} {r : Option yT × Nat} (hr : zPR h1 p cs pos1 (ns ++ e) res r) (hf : zfr p (p + 12) h h1) (he : e.length + pos ≤ pos1) : zPR h p cs pos ns res r := by
  obtain ⟨h', e', x, e1, w1, w2, w3, w4, w5, w6⟩ := hr
  rw [List.append_assoc] at w1 w3 w6
  exact ⟨h', e ++ e', x, e1, w1, by rw [List.length_append]; omega, w3, w4, zfr_tr hf w5, w6⟩
section ZDU
variable {sv : Nat → Value} {p : Nat} {cs : List Int32}
/-- on from an operand: sums -/
theorem d_153l {f : Nat} (hA : yPA sv p cs f 2 2 154 5) (hL : yPL sv p cs f 1 3 153 5) : yPL sv p cs (f + 1) 1 3 153 5 := by
  intro op pos k h ns D x a s4 h4 hmu hD hop hp hw hn hl hk ha
  have h60 := hp.2.1.2.2.1
  have hmu2 : 400 * (7 - op) + 5 * (61 - pos) + 3 < f + 1 := hmu
  obtain ⟨d, rfl⟩ : ∃ d, D = d + 4 := ⟨D - 4, by omega⟩
  cases a with
  | none =>
    have hx : x = -1 := ha
    subst hx
    rw [ypa_1n]
    refine ⟨h, [], -1, ?_, by rw [List.append_nil]; exact hp, by rw [List.length_nil]; omega, by rw [List.append_nil]; exact hw, hl, zfr_rfl, rfl⟩
    by_cases g : k < 60
    · simp only [zs_153_0, zs_153_1, zs_153_2, zs_153_5, zs_153_6, zs_153_7, zs_153_8, zs_153_9, zs_153_11, zs_153_14, zs_153_15, zs_153_16, zs_153_19, zs_153_20, zs_153_22, zs_153_24, zs_153_27, zs_153_30, zs_153_31, zs_153_34, zs_153_36, zs_153_37, zs_153_39, zs_153_40, zs_153_41, zs_153_42, zs_153_45, zs_153_48, zs_153_49, zs_153_52, zs_153_55, zs_153_56, if_pos (nI_lt g (show 60 < 2 ^ 31 by decide)), nI_m1e, ↓reduceIte]
    · simp only [zs_153_0, zs_153_1, zs_153_2, zs_153_5, zs_153_6, zs_153_7, zs_153_8, zs_153_9, zs_153_11, zs_153_14, zs_153_15, zs_153_16, zs_153_19, zs_153_20, zs_153_22, zs_153_24, zs_153_27, zs_153_30, zs_153_31, zs_153_34, zs_153_36, zs_153_37, zs_153_39, zs_153_40, zs_153_41, zs_153_42, zs_153_45, zs_153_48, zs_153_49, zs_153_52, zs_153_55, zs_153_56, if_neg (nI_nlt (show 60 ≤ k by omega) (show k < 2 ^ 31 by omega))]
  | some t =>
    have hx := ha.1
    rw [ypa_1s]
    have e3 := d_163 (sv := sv) (d := d + 2) (a := nI 43) (b := nI 45) hp (by omega)
    by_cases h1 : ycat cs pos = nI 43 ∨ ycat cs pos = nI 45
    · rw [if_pos h1]
      have hb : (decide (ycat cs pos = nI 43) || decide (ycat cs pos = nI 45)) = true := by
        rcases h1 with g | g
        · rw [decide_eq_true g]; rfl
        · rw [decide_eq_true g, Bool.or_true]
      rw [hb] at e3
      have h2 : pos < cs.length := ycat_lt (fun h3 => by
        rcases h1 with g | g
        · exact y32.1 (h3.symm.trans g)
        · exact y32.2.1 (h3.symm.trans g))
      obtain ⟨h1', e4, w4, f4⟩ := d_160 (sv := sv) (d := d + 2) hp (by omega)
      have m1 : ymu 2 op (pos + 1) < f := by
        show 400 * (7 - op) + 5 * (61 - (pos + 1)) + 2 < f
        omega
      obtain ⟨h2', e, y, e5, w5, w6, w7, w8, f5, w9⟩ := hA op (pos + 1) h1' ns (d + 4) m1 hD hop w4 hw (by omega) (by omega)
      have g1 : nI k < nI 60 := nI_lt (by omega) (by decide)
      have e0 : zrun zP sv (zcall zP sv (d + 4)) 153 8 [.val (.ref p), .val (.int (nI op)), .val (.int x), .val (.int (nI k)), s4] [] h = zbk (zcall zP sv (d + 4) 155 [.ref p, .int (ycat cs pos), .int x, .int y] h2') (fun v h' => zrun zP sv (zcall zP sv (d + 4)) 153 48 [.val (.ref p), .val (.int (nI op)), .val (.int x), .val (.int (nI k)), .val (.int (ycat cs pos))] (v.toList ++ []) h') (fun E h' => some (.inr E, h')) := by
        simp (disch := first | exact h4 | exact znw_i) only [zs_153_0, zs_153_1, zs_153_2, zs_153_5, zs_153_6, zs_153_7, zs_153_8, zs_153_9, zs_153_11, zs_153_14, zs_153_15, zs_153_16, zs_153_19, zs_153_20, zs_153_22, zs_153_24, zs_153_27, zs_153_30, zs_153_31, zs_153_34, zs_153_36, zs_153_37, zs_153_39, zs_153_40, zs_153_41, zs_153_42, zs_153_45, zs_153_49, zs_153_52, zs_153_55, zs_153_56, if_pos g1, if_neg hx, zPar_rc hp, e3, yb_t, nI_1e0, ↓reduceIte, e4, zPar_rc w4, e5, zPar_rc w5, zbk_v, zts_s]
      rw [e0]
      have hlen : (ns ++ e).length = ns.length + e.length := List.length_append
      cases hr : (ypa cs f 2 none op (pos + 1)).1 with
      | none =>
        rw [hr] at w9
        have hy : y = -1 := w9
        subst hy
        rw [d_155n w5, zbk_v, zts_s, zs_153_48 rfl, zs_153_49, zs_153_52, nI_1']
        have q := hL op (ypa cs f 2 none op (pos + 1)).2 (k + 1) h2' (ns ++ e) (d + 4) (-1) none (.val (.int (ycat cs pos))) rfl (by unfold ymu; omega) (by omega) hop w5 w7 (by omega) w8 (by omega) rfl
        exact zPR_tr q (zfr_tr f4 f5) (by omega)
      | some u =>
        rw [hr] at w9
        obtain ⟨h3', e6, w10, f6⟩ := d_155 (sv := sv) (d := d) (k := ycat cs pos) (x := x) (y := y) w5 (by omega) w9.1
        rw [e6, zbk_v, zts_s, zs_153_48 rfl, zs_153_49, zs_153_52, nI_1']
        have cx : ych (ns ++ e).length x := ych_mono ha.2.1 (by omega)
        have z1 := ywf_snoc (nd := (ycat cs pos, 0, x, y)) w7 cx w9.2.1 (by omega)
        rw [List.append_assoc] at w10 z1
        have t1 : yis1 (ns ++ (e ++ [(ycat cs pos, 0, x, y)])) (nI (ns ++ e).length) (some (ymk (ycat cs pos) 0 t u)) := by
          rw [← List.append_assoc]
          exact ⟨nI_nm1 (by omega), ych_snoc, by rw [ygt_new (by omega), w9.2.2, ygt_pre (by omega) ha.2.1, ha.2.2]⟩
        have le1 : (e ++ [(ycat cs pos, 0, x, y)]).length = e.length + 1 := List.length_append
        have q := hL op (ypa cs f 2 none op (pos + 1)).2 (k + 1) h3' (ns ++ (e ++ [(ycat cs pos, 0, x, y)])) (d + 4) _ (some (ymk (ycat cs pos) 0 t u)) (.val (.int (ycat cs pos))) rfl (by unfold ymu; omega) (by omega) hop w10 z1 (by rw [List.length_append]; omega) w8 (by omega) t1
        exact zPR_tr q (zfr_tr (zfr_tr f4 f5) f6) (by omega)
    · rw [if_neg h1]
      have hb : (decide (ycat cs pos = nI 43) || decide (ycat cs pos = nI 45)) = false := by
        rw [decide_eq_false (fun g => h1 (Or.inl g)), decide_eq_false (fun g => h1 (Or.inr g))]; rfl
      rw [hb] at e3
      refine ⟨h, [], x, ?_, by rw [List.append_nil]; exact hp, by rw [List.length_nil]; omega, by rw [List.append_nil]; exact hw, hl, zfr_rfl, by rw [List.append_nil]; exact ha⟩
      by_cases g : k < 60
      · simp only [zs_153_0, zs_153_1, zs_153_2, zs_153_5, zs_153_6, zs_153_7, zs_153_8, zs_153_9, zs_153_11, zs_153_14, zs_153_15, zs_153_16, zs_153_19, zs_153_20, zs_153_22, zs_153_24, zs_153_27, zs_153_30, zs_153_31, zs_153_34, zs_153_36, zs_153_37, zs_153_39, zs_153_40, zs_153_41, zs_153_42, zs_153_45, zs_153_48, zs_153_49, zs_153_52, zs_153_55, zs_153_56, if_pos (nI_lt g (show 60 < 2 ^ 31 by decide)), if_neg hx, zPar_rc hp, e3, yb_f, ↓reduceIte, zbk_v, zts_s]
      · simp only [zs_153_0, zs_153_1, zs_153_2, zs_153_5, zs_153_6, zs_153_7, zs_153_8, zs_153_9, zs_153_11, zs_153_14, zs_153_15, zs_153_16, zs_153_19, zs_153_20, zs_153_22, zs_153_24, zs_153_27, zs_153_30, zs_153_31, zs_153_34, zs_153_36, zs_153_37, zs_153_39, zs_153_40, zs_153_41, zs_153_42, zs_153_45, zs_153_48, zs_153_49, zs_153_52, zs_153_55, zs_153_56, if_neg (nI_nlt (show 60 ≤ k by omega) (show k < 2 ^ 31 by omega))]
end ZDU

section ZDV
variable {sv : Nat → Value} {p : Nat} {cs : List Int32}
/-- on from an operand: products -/
theorem d_154l {f : Nat} (hA : yPA sv p cs f 4 0 156 4) (hL : yPL sv p cs f 3 1 154 4) : yPL sv p cs (f + 1) 3 1 154 4 := by
  intro op pos k h ns D x a s4 h4 hmu hD hop hp hw hn hl hk ha
  have h60 := hp.2.1.2.2.1
  have hmu2 : 400 * (7 - op) + 5 * (61 - pos) + 1 < f + 1 := hmu
  obtain ⟨d, rfl⟩ : ∃ d, D = d + 4 := ⟨D - 4, by omega⟩
  cases a with
  | none =>
    have hx : x = -1 := ha
    subst hx
    rw [ypa_3n]
    refine ⟨h, [], -1, ?_, by rw [List.append_nil]; exact hp, by rw [List.length_nil]; omega, by rw [List.append_nil]; exact hw, hl, zfr_rfl, rfl⟩
    by_cases g : k < 60
    · simp only [zs_154_0, zs_154_1, zs_154_2, zs_154_5, zs_154_6, zs_154_7, zs_154_8, zs_154_9, zs_154_11, zs_154_14, zs_154_15, zs_154_16, zs_154_19, zs_154_20, zs_154_22, zs_154_24, zs_154_27, zs_154_30, zs_154_31, zs_154_34, zs_154_36, zs_154_37, zs_154_39, zs_154_40, zs_154_41, zs_154_42, zs_154_45, zs_154_48, zs_154_49, zs_154_52, zs_154_55, zs_154_56, if_pos (nI_lt g (show 60 < 2 ^ 31 by decide)), nI_m1e, ↓reduceIte]
    · simp only [zs_154_0, zs_154_1, zs_154_2, zs_154_5, zs_154_6, zs_154_7, zs_154_8, zs_154_9, zs_154_11, zs_154_14, zs_154_15, zs_154_16, zs_154_19, zs_154_20, zs_154_22, zs_154_24, zs_154_27, zs_154_30, zs_154_31, zs_154_34, zs_154_36, zs_154_37, zs_154_39, zs_154_40, zs_154_41, zs_154_42, zs_154_45, zs_154_48, zs_154_49, zs_154_52, zs_154_55, zs_154_56, if_neg (nI_nlt (show 60 ≤ k by omega) (show k < 2 ^ 31 by omega))]
  | some t =>
    have hx := ha.1
    rw [ypa_3s]
    have e3 := d_163 (sv := sv) (d := d + 2) (a := nI 42) (b := nI 42) hp (by omega)
    by_cases h1 : ycat cs pos = nI 42
    · rw [if_pos h1]
      have hb : (decide (ycat cs pos = nI 42) || decide (ycat cs pos = nI 42)) = true := by
        rw [decide_eq_true h1]; rfl
      rw [hb] at e3
      have h2 : pos < cs.length := ycat_lt (fun h3 => y32.2.2.1 (h3.symm.trans h1))
      obtain ⟨h1', e4, w4, f4⟩ := d_160 (sv := sv) (d := d + 2) hp (by omega)
      have m1 : ymu 0 op (pos + 1) < f := by
        show 400 * (7 - op) + 5 * (61 - (pos + 1)) + 0 < f
        omega
      obtain ⟨h2', e, y, e5, w5, w6, w7, w8, f5, w9⟩ := hA op (pos + 1) h1' ns (d + 4) m1 hD hop w4 hw (by omega) (by omega)
      have g1 : nI k < nI 60 := nI_lt (by omega) (by decide)
      have e0 : zrun zP sv (zcall zP sv (d + 4)) 154 8 [.val (.ref p), .val (.int (nI op)), .val (.int x), .val (.int (nI k)), s4] [] h = zbk (zcall zP sv (d + 4) 155 [.ref p, .int (ycat cs pos), .int x, .int y] h2') (fun v h' => zrun zP sv (zcall zP sv (d + 4)) 154 48 [.val (.ref p), .val (.int (nI op)), .val (.int x), .val (.int (nI k)), .val (.int (ycat cs pos))] (v.toList ++ []) h') (fun E h' => some (.inr E, h')) := by
        simp (disch := first | exact h4 | exact znw_i) only [zs_154_0, zs_154_1, zs_154_2, zs_154_5, zs_154_6, zs_154_7, zs_154_8, zs_154_9, zs_154_11, zs_154_14, zs_154_15, zs_154_16, zs_154_19, zs_154_20, zs_154_22, zs_154_24, zs_154_27, zs_154_30, zs_154_31, zs_154_34, zs_154_36, zs_154_37, zs_154_39, zs_154_40, zs_154_41, zs_154_42, zs_154_45, zs_154_49, zs_154_52, zs_154_55, zs_154_56, if_pos g1, if_neg hx, zPar_rc hp, e3, yb_t, nI_1e0, ↓reduceIte, e4, zPar_rc w4, e5, zPar_rc w5, zbk_v, zts_s]
      rw [e0]
      have hlen : (ns ++ e).length = ns.length + e.length := List.length_append
      cases hr : (ypa cs f 4 none op (pos + 1)).1 with
      | none =>
        rw [hr] at w9
        have hy : y = -1 := w9
        subst hy
        rw [d_155n w5, zbk_v, zts_s, zs_154_48 rfl, zs_154_49, zs_154_52, nI_1']
        have q := hL op (ypa cs f 4 none op (pos + 1)).2 (k + 1) h2' (ns ++ e) (d + 4) (-1) none (.val (.int (ycat cs pos))) rfl (by unfold ymu; omega) (by omega) hop w5 w7 (by omega) w8 (by omega) rfl
        exact zPR_tr q (zfr_tr f4 f5) (by omega)
      | some u =>
        rw [hr] at w9
        obtain ⟨h3', e6, w10, f6⟩ := d_155 (sv := sv) (d := d) (k := ycat cs pos) (x := x) (y := y) w5 (by omega) w9.1
        rw [e6, zbk_v, zts_s, zs_154_48 rfl, zs_154_49, zs_154_52, nI_1']
        have cx : ych (ns ++ e).length x := ych_mono ha.2.1 (by omega)
        have z1 := ywf_snoc (nd := (ycat cs pos, 0, x, y)) w7 cx w9.2.1 (by omega)
        rw [List.append_assoc] at w10 z1
        have t1 : yis1 (ns ++ (e ++ [(ycat cs pos, 0, x, y)])) (nI (ns ++ e).length) (some (ymk (ycat cs pos) 0 t u)) := by
          rw [← List.append_assoc]
          exact ⟨nI_nm1 (by omega), ych_snoc, by rw [ygt_new (by omega), w9.2.2, ygt_pre (by omega) ha.2.1, ha.2.2]⟩
        have le1 : (e ++ [(ycat cs pos, 0, x, y)]).length = e.length + 1 := List.length_append
        have q := hL op (ypa cs f 4 none op (pos + 1)).2 (k + 1) h3' (ns ++ (e ++ [(ycat cs pos, 0, x, y)])) (d + 4) _ (some (ymk (ycat cs pos) 0 t u)) (.val (.int (ycat cs pos))) rfl (by unfold ymu; omega) (by omega) hop w10 z1 (by rw [List.length_append]; omega) w8 (by omega) t1
        exact zPR_tr q (zfr_tr (zfr_tr f4 f5) f6) (by omega)
    · rw [if_neg h1]
      have hb : (decide (ycat cs pos = nI 42) || decide (ycat cs pos = nI 42)) = false := by
        rw [decide_eq_false h1]; rfl
      rw [hb] at e3
      refine ⟨h, [], x, ?_, by rw [List.append_nil]; exact hp, by rw [List.length_nil]; omega, by rw [List.append_nil]; exact hw, hl, zfr_rfl, by rw [List.append_nil]; exact ha⟩
      by_cases g : k < 60
      · simp only [zs_154_0, zs_154_1, zs_154_2, zs_154_5, zs_154_6, zs_154_7, zs_154_8, zs_154_9, zs_154_11, zs_154_14, zs_154_15, zs_154_16, zs_154_19, zs_154_20, zs_154_22, zs_154_24, zs_154_27, zs_154_30, zs_154_31, zs_154_34, zs_154_36, zs_154_37, zs_154_39, zs_154_40, zs_154_41, zs_154_42, zs_154_45, zs_154_48, zs_154_49, zs_154_52, zs_154_55, zs_154_56, if_pos (nI_lt g (show 60 < 2 ^ 31 by decide)), if_neg hx, zPar_rc hp, e3, yb_f, ↓reduceIte, zbk_v, zts_s]
      · simp only [zs_154_0, zs_154_1, zs_154_2, zs_154_5, zs_154_6, zs_154_7, zs_154_8, zs_154_9, zs_154_11, zs_154_14, zs_154_15, zs_154_16, zs_154_19, zs_154_20, zs_154_22, zs_154_24, zs_154_27, zs_154_30, zs_154_31, zs_154_34, zs_154_36, zs_154_37, zs_154_39, zs_154_40, zs_154_41, zs_154_42, zs_154_45, zs_154_48, zs_154_49, zs_154_52, zs_154_55, zs_154_56, if_neg (nI_nlt (show 60 ≤ k by omega) (show k < 2 ^ 31 by omega))]

theorem d_153 {f : Nat} (hA : yPA sv p cs f 2 2 154 5) (hL : yPL sv p cs f 1 3 153 5) : yPA sv p cs (f + 1) 0 4 153 6 := by
  intro op pos h ns D hmu hD hop hp hw hn hl
  have hmu2 : 400 * (7 - op) + 5 * (61 - pos) + 4 < f + 1 := hmu
  obtain ⟨d, rfl⟩ : ∃ d, D = d + 1 := ⟨D - 1, by omega⟩
  have m1 : ymu 2 op pos < f := by
    show 400 * (7 - op) + 5 * (61 - pos) + 2 < f
    omega
  rw [ypa_0]
  obtain ⟨h1, e, x, e1, w1, w2, w3, w4, f1, w5⟩ := hA op pos h ns d m1 (by omega) hop hp hw hn hl
  have m2 : ymu 3 op (ypa cs f 2 none op pos).2 < f := by
    show 400 * (7 - op) + 5 * (61 - (ypa cs f 2 none op pos).2) + 3 < f
    omega
  have q := hL op (ypa cs f 2 none op pos).2 0 h1 (ns ++ e) d x _ .unset rfl m2 (by omega) hop w1 w3 (by rw [List.length_append]; omega) w4 (Nat.zero_le _) w5
  rw [nI_0] at q
  have e0 : zcall zP sv (d + 1) 153 [.ref p, .int (nI op)] h = zrun zP sv (zcall zP sv d) 153 8 [.val (.ref p), .val (.int (nI op)), .val (.int x), .val (.int 0), .unset] [] h1 := by
    simp (disch := exact znw_u) only [zc_153, zs_153_0, zs_153_1, zs_153_2, zs_153_5, zs_153_6, zs_153_7, zs_153_9, zs_153_11, zs_153_14, zs_153_15, zs_153_16, zs_153_19, zs_153_20, zs_153_22, zs_153_24, zs_153_27, zs_153_30, zs_153_31, zs_153_34, zs_153_36, zs_153_37, zs_153_39, zs_153_40, zs_153_41, zs_153_42, zs_153_45, zs_153_48, zs_153_49, zs_153_52, zs_153_55, zs_153_56, zPar_rc hp, e1, zbk_v, zts_s]
  rw [e0]
  exact zPR_tr q f1 w2
theorem d_154 {f : Nat} (hA : yPA sv p cs f 4 0 156 4) (hL : yPL sv p cs f 3 1 154 4) : yPA sv p cs (f + 1) 2 2 154 5 := by
  intro op pos h ns D hmu hD hop hp hw hn hl
  have hmu2 : 400 * (7 - op) + 5 * (61 - pos) + 2 < f + 1 := hmu
  obtain ⟨d, rfl⟩ : ∃ d, D = d + 1 := ⟨D - 1, by omega⟩
  have m1 : ymu 0 op pos < f := by
    show 400 * (7 - op) + 5 * (61 - pos) + 0 < f
    omega
  rw [ypa_2]
  obtain ⟨h1, e, x, e1, w1, w2, w3, w4, f1, w5⟩ := hA op pos h ns d m1 (by omega) hop hp hw hn hl
  have m2 : ymu 1 op (ypa cs f 4 none op pos).2 < f := by
    show 400 * (7 - op) + 5 * (61 - (ypa cs f 4 none op pos).2) + 1 < f
    omega
  have q := hL op (ypa cs f 4 none op pos).2 0 h1 (ns ++ e) d x _ .unset rfl m2 (by omega) hop w1 w3 (by rw [List.length_append]; omega) w4 (Nat.zero_le _) w5
  rw [nI_0] at q
  have e0 : zcall zP sv (d + 1) 154 [.ref p, .int (nI op)] h = zrun zP sv (zcall zP sv d) 154 8 [.val (.ref p), .val (.int (nI op)), .val (.int x), .val (.int 0), .unset] [] h1 := by
    simp (disch := exact znw_u) only [zc_154, zs_154_0, zs_154_1, zs_154_2, zs_154_5, zs_154_6, zs_154_7, zs_154_9, zs_154_11, zs_154_14, zs_154_15, zs_154_16, zs_154_19, zs_154_20, zs_154_22, zs_154_24, zs_154_27, zs_154_30, zs_154_31, zs_154_34, zs_154_36, zs_154_37, zs_154_39, zs_154_40, zs_154_41, zs_154_42, zs_154_45, zs_154_48, zs_154_49, zs_154_52, zs_154_55, zs_154_56, zPar_rc hp, e1, zbk_v, zts_s]
  rw [e0]
  exact zPR_tr q f1 w2
/-- what stands behind the negations -/
def ypu (cs : List Int32) (f op p : Nat) : Option yT × Nat := if ycat cs p = nI 40 ∧ op < 6 then (if (ypa cs f 0 none (op + 1) (p + 1)).1.isSome = true ∧ ycat cs (ypa cs f 0 none (op + 1) (p + 1)).2 = nI 41 then ((ypa cs f 0 none (op + 1) (p + 1)).1, (ypa cs f 0 none (op + 1) (p + 1)).2 + 1) else (none, (ypa cs f 0 none (op + 1) (p + 1)).2))
        else if ylet (ycat cs p) = true then (some (ymk (nI 118) (ycat cs p) .leaf .leaf), p + 1)
        else if yisd (ycat cs p) = true then ynum2 cs p else (none, p)
theorem ypa_4 {cs : List Int32} {f op pos : Nat} {a : Option yT} : ypa cs (f + 1) 4 a op pos = ((ypu cs f op (pos + yng cs pos 6)).1.map (ywr (yng cs pos 6)), (ypu cs f op (pos + yng cs pos 6)).2) := by
  conv => lhs; unfold ypa
  rfl
theorem ylet_r {c : Int32} (h : ylet c = true) : ¬ c < nI 97 ∧ ¬ nI 102 < c := by
  unfold ylet at h
  rw [Bool.and_eq_true] at h
  exact ⟨of_decide_eq_true h.1, of_decide_eq_true h.2⟩
theorem ylet_f {c : Int32} (h : ylet c = false) : c < nI 97 ∨ nI 102 < c := by
  by_cases h1 : c < nI 97
  · exact Or.inl h1
  · by_cases h2 : nI 102 < c
    · exact Or.inr h2
    · unfold ylet at h
      rw [decide_eq_true h1, decide_eq_true h2] at h
      exact absurd h (by decide)
theorem d_158 {f : Nat} (hA : yPA sv p cs f 0 4 153 6) {op pos D : Nat} {h : zH} {ns : List yN} (hmu : 400 * (7 - op) + 5 * (61 - pos) + 0 < f + 1) (hD : 5 * (7 - op) + 2 ≤ D) (hop : op < 6) (hp : zPar h p cs pos ns) (hw : ywf ns) (hn : ns.length ≤ pos) (hl : pos < cs.length) : zPR h p cs pos ns (zcall zP sv D 158 [.ref p, .int (nI op)] h) (if (ypa cs f 0 none (op + 1) (pos + 1)).1.isSome = true ∧ ycat cs (ypa cs f 0 none (op + 1) (pos + 1)).2 = nI 41 then ((ypa cs f 0 none (op + 1) (pos + 1)).1, (ypa cs f 0 none (op + 1) (pos + 1)).2 + 1) else (none, (ypa cs f 0 none (op + 1) (pos + 1)).2)) := by
  have h60 := hp.2.1.2.2.1
  obtain ⟨d, rfl⟩ : ∃ d, D = d + 2 := ⟨D - 2, by omega⟩
  have h0 := hp.1
  have w := zPar_pos (pos' := pos + 1) hp
  have f0 : zfr p (p + 12) h (zup h p (7, [.ref (p + 1), .ref (p + 3), .int (nI (pos + 1))])) := zfr_up (by omega) (by omega)
  have a0 : (zup h p (7, [.ref (p + 1), .ref (p + 3), .int (nI (pos + 1))])).1 p = (7, [.ref (p + 1), .ref (p + 3), .int (nI (pos + 1))]) := zup_at
  have m1 : ymu 4 (op + 1) (pos + 1) < f := by
    show 400 * (7 - (op + 1)) + 5 * (61 - (pos + 1)) + 4 < f
    omega
  obtain ⟨h1, e, x, e1, w1, w2, w3, w4, f1, w5⟩ := hA (op + 1) (pos + 1) _ ns (d + 1) m1 (by omega) (by omega) w hw (by omega) (by omega)
  have b0 := w1.1
  cases hr : (ypa cs f 0 none (op + 1) (pos + 1)).1 with
  | none =>
    rw [if_neg (fun g => by cases g.1)]
    rw [hr] at w5
    have hx : x = -1 := w5
    subst hx
    refine ⟨h1, e, -1, ?_, w1, by omega, w3, w4, zfr_tr f0 f1, rfl⟩
    simp (disch := exact znw_u) only [zc_158, zs_158_0, zs_158_1, zs_158_2, zs_158_5, zs_158_6, zs_158_7, zs_158_10, zs_158_11, zs_158_12, zs_158_13, zs_158_14, zs_158_17, zs_158_18, zs_158_19, zs_158_20, zs_158_23, zs_158_24, zs_158_27, zs_158_28, zs_158_31, zs_158_34, zs_158_36, zs_158_39, zs_158_40, zs_158_41, zs_158_42, zs_158_43, zs_158_46, zs_158_47, zs_158_48, zs_158_51, zs_158_52, h0, zrc_7, zf_7_0, zp_7_0, zp_7_0n, zf_7_1, zp_7_1, zp_7_1n, zf_7_2, zp_7_2, zup_at, nI_1', zPar_rc w, e1, nI_m1e, zbk_v, zts_s, ↓reduceIte]
  | some u =>
    rw [hr] at w5
    have e2 := d_141 (sv := sv) (d := d) (h := h1) w1.2.1 (show (ypa cs f 0 none (op + 1) (pos + 1)).2 < 2 ^ 31 by omega)
    by_cases h2 : ycat cs (ypa cs f 0 none (op + 1) (pos + 1)).2 = nI 41
    · rw [if_pos ⟨rfl, h2⟩]
      have h3 : (ypa cs f 0 none (op + 1) (pos + 1)).2 < cs.length := ycat_lt (fun h3 => y32.2.2.2.2.1 (h3.symm.trans h2))
      have w6 := zPar_pos (pos' := (ypa cs f 0 none (op + 1) (pos + 1)).2 + 1) w1
      refine ⟨_, e, x, ?_, w6, by show e.length + pos ≤ (ypa cs f 0 none (op + 1) (pos + 1)).2 + 1; omega, w3, h3, zfr_tr (zfr_tr f0 f1) (zfr_up (by omega) (by omega)), w5⟩
      simp (disch := exact znw_u) only [zc_158, zs_158_0, zs_158_1, zs_158_2, zs_158_5, zs_158_6, zs_158_7, zs_158_10, zs_158_11, zs_158_12, zs_158_13, zs_158_14, zs_158_17, zs_158_18, zs_158_19, zs_158_20, zs_158_23, zs_158_24, zs_158_27, zs_158_28, zs_158_31, zs_158_34, zs_158_36, zs_158_39, zs_158_40, zs_158_41, zs_158_42, zs_158_43, zs_158_46, zs_158_47, zs_158_48, zs_158_51, zs_158_52, h0, zrc_7, zf_7_0, zp_7_0, zp_7_0n, zf_7_1, zp_7_1, zp_7_1n, zf_7_2, zp_7_2, zup_at, nI_1', zPar_rc w, e1, if_neg w5.1, b0, zInp_rc w1.2.1, e2, if_pos h2, zbk_v, zts_s]
    · rw [if_neg (fun g => h2 g.2)]
      refine ⟨h1, e, -1, ?_, w1, by show e.length + pos ≤ (ypa cs f 0 none (op + 1) (pos + 1)).2; omega, w3, w4, zfr_tr f0 f1, rfl⟩
      simp (disch := exact znw_u) only [zc_158, zs_158_0, zs_158_1, zs_158_2, zs_158_5, zs_158_6, zs_158_7, zs_158_10, zs_158_11, zs_158_12, zs_158_13, zs_158_14, zs_158_17, zs_158_18, zs_158_19, zs_158_20, zs_158_23, zs_158_24, zs_158_27, zs_158_28, zs_158_31, zs_158_34, zs_158_36, zs_158_39, zs_158_40, zs_158_41, zs_158_42, zs_158_43, zs_158_46, zs_158_47, zs_158_48, zs_158_51, zs_158_52, h0, zrc_7, zf_7_0, zp_7_0, zp_7_0n, zf_7_1, zp_7_1, zp_7_1n, zf_7_2, zp_7_2, zup_at, nI_1', zPar_rc w, e1, if_neg w5.1, b0, zInp_rc w1.2.1, e2, if_neg h2, zbk_v, zts_s]
theorem y40 : ylet (nI 40) = false ∧ yisd (nI 40) = false ∧ (nI 40 < nI 97) = True ∧ (nI 6 < nI 6) = False := by decide +kernel
theorem d_157 {f : Nat} (hA : yPA sv p cs f 0 4 153 6) {op pos D : Nat} {h : zH} {ns : List yN} (hmu : 400 * (7 - op) + 5 * (61 - pos) + 0 < f + 1) (hD : 5 * (7 - op) + 3 ≤ D) (hop : op ≤ 6) (hp : zPar h p cs pos ns) (hw : ywf ns) (hn : ns.length ≤ pos) (hl : pos ≤ cs.length) : zPR h p cs pos ns (zcall zP sv D 157 [.ref p, .int (nI op)] h) (ypu cs f op pos) := by
  have h60 := hp.2.1.2.2.1
  obtain ⟨d, rfl⟩ : ∃ d, D = d + 5 := ⟨D - 5, by omega⟩
  have h0 := hp.1
  have e2 := d_141 (sv := sv) (d := d + 3) (h := h) hp.2.1 (show pos < 2 ^ 31 by omega)
  unfold ypu
  by_cases h1 : ycat cs pos = nI 40 ∧ op < 6
  · rw [if_pos h1]
    have h3 : pos < cs.length := ycat_lt (fun h3 => y32.2.2.2.1 (h3.symm.trans h1.1))
    obtain ⟨h', e, x, e1, w⟩ := d_158 (sv := sv) (D := d + 4) hA hmu (by omega) h1.2 hp hw hn h3
    refine ⟨h', e, x, ?_, w⟩
    have g1 : nI op < nI 6 := nI_lt h1.2 (by decide)
    simp (disch := exact znw_u) only [zc_157, zs_157_0, zs_157_1, zs_157_4, zs_157_5, zs_157_8, zs_157_11, zs_157_12, zs_157_13, zs_157_15, zs_157_18, zs_157_19, zs_157_21, zs_157_24, zs_157_25, zs_157_26, zs_157_29, zs_157_30, zs_157_31, zs_157_33, zs_157_36, zs_157_37, zs_157_39, zs_157_42, zs_157_43, zs_157_44, zs_157_47, zs_157_48, zs_157_49, zs_157_52, zs_157_53, zs_157_56, zs_157_58, zs_157_59, zs_157_60, zs_157_61, zs_157_64, zs_157_65, zs_157_66, zs_157_69, zs_157_72, zs_157_73, zs_157_76, zs_157_79, zs_157_80, h0, zrc_7, zf_7_0, zp_7_0, zp_7_0n, zf_7_1, zp_7_1, zp_7_1n, zf_7_2, zp_7_2, zInp_rc hp.2.1, e2, if_pos h1.1, if_pos g1, zPar_rc hp, e1, zbk_v, zts_s]
  · rw [if_neg h1]
    have e3 : zcall zP sv (d + 5) 157 [.ref p, .int (nI op)] h = zrun zP sv (zcall zP sv (d + 4)) 157 30 [.val (.ref p), .val (.int (nI op)), .val (.int (ycat cs pos))] [] h := by
      by_cases h2 : ycat cs pos = nI 40
      · have g1 : ¬ nI op < nI 6 := nI_nlt (by
          have h9 : ¬ op < 6 := fun g => h1 ⟨h2, g⟩
          omega) (by omega)
        simp (disch := exact znw_u) only [zc_157, zs_157_0, zs_157_1, zs_157_4, zs_157_5, zs_157_8, zs_157_11, zs_157_12, zs_157_13, zs_157_15, zs_157_18, zs_157_19, zs_157_21, zs_157_24, zs_157_25, zs_157_26, zs_157_29, zs_157_31, zs_157_33, zs_157_36, zs_157_37, zs_157_39, zs_157_42, zs_157_43, zs_157_44, zs_157_47, zs_157_48, zs_157_49, zs_157_52, zs_157_53, zs_157_56, zs_157_58, zs_157_59, zs_157_60, zs_157_61, zs_157_64, zs_157_65, zs_157_66, zs_157_69, zs_157_72, zs_157_73, zs_157_76, zs_157_79, zs_157_80, h0, zrc_7, zf_7_0, zp_7_0, zp_7_0n, zf_7_1, zp_7_1, zp_7_1n, zf_7_2, zp_7_2, zInp_rc hp.2.1, e2, if_pos h2, if_neg g1, zbk_v, zts_s]
      · simp (disch := exact znw_u) only [zc_157, zs_157_0, zs_157_1, zs_157_4, zs_157_5, zs_157_8, zs_157_11, zs_157_12, zs_157_13, zs_157_15, zs_157_18, zs_157_19, zs_157_21, zs_157_24, zs_157_25, zs_157_26, zs_157_29, zs_157_31, zs_157_33, zs_157_36, zs_157_37, zs_157_39, zs_157_42, zs_157_43, zs_157_44, zs_157_47, zs_157_48, zs_157_49, zs_157_52, zs_157_53, zs_157_56, zs_157_58, zs_157_59, zs_157_60, zs_157_61, zs_157_64, zs_157_65, zs_157_66, zs_157_69, zs_157_72, zs_157_73, zs_157_76, zs_157_79, zs_157_80, h0, zrc_7, zf_7_0, zp_7_0, zp_7_0n, zf_7_1, zp_7_1, zp_7_1n, zf_7_2, zp_7_2, zInp_rc hp.2.1, e2, if_neg h2, zbk_v, zts_s]
    rw [e3]
    cases h4 : ylet (ycat cs pos) with
    | true =>
      rw [if_pos rfl]
      have g := ylet_r h4
      have h3 : pos < cs.length := ycat_lt (fun h3 => by rw [h3, y32.2.2.2.2.2.1] at h4; cases h4)
      have w := zPar_pos (pos' := pos + 1) hp
      have f0 : zfr p (p + 12) h (zup h p (7, [.ref (p + 1), .ref (p + 3), .int (nI (pos + 1))])) := zfr_up (by omega) (by omega)
      obtain ⟨h', e1, w1, f1⟩ := d_191 (sv := sv) (d := d + 2) (k := nI 118) (n := ycat cs pos) (l := -1) (r := -1) w.2.2 (by omega)
      refine ⟨h', [(nI 118, ycat cs pos, -1, -1)], nI ns.length, ?_, zPar_tree w f1 w1, by show 1 + pos ≤ pos + 1; omega, ywf_snoc hw ych_n ych_n (by omega), h3, zfr_tr f0 (zfr_mono f1 (by omega) (by omega)), nI_nm1 (by omega), ych_snoc, by rw [ygt_new (by omega), ygt_n]⟩
      simp only [zs_157_0, zs_157_1, zs_157_4, zs_157_5, zs_157_8, zs_157_11, zs_157_12, zs_157_13, zs_157_15, zs_157_18, zs_157_19, zs_157_21, zs_157_24, zs_157_25, zs_157_26, zs_157_29, zs_157_30, zs_157_31, zs_157_33, zs_157_36, zs_157_37, zs_157_39, zs_157_42, zs_157_43, zs_157_44, zs_157_47, zs_157_48, zs_157_49, zs_157_52, zs_157_53, zs_157_56, zs_157_58, zs_157_59, zs_157_60, zs_157_61, zs_157_64, zs_157_65, zs_157_66, zs_157_69, zs_157_72, zs_157_73, zs_157_76, zs_157_79, zs_157_80, if_neg g.1, if_neg g.2, h0, zrc_7, zf_7_0, zp_7_0, zp_7_0n, zf_7_1, zp_7_1, zp_7_1n, zf_7_2, zp_7_2, zup_at, nI_1', zTre_rc w.2.2, e1, zbk_v, zts_s]
    | false =>
      rw [if_neg (by decide)]
      have e4 : zrun zP sv (zcall zP sv (d + 4)) 157 30 [.val (.ref p), .val (.int (nI op)), .val (.int (ycat cs pos))] [] h = zrun zP sv (zcall zP sv (d + 4)) 157 65 [.val (.ref p), .val (.int (nI op)), .val (.int (ycat cs pos))] [] h := by
        by_cases g : ycat cs pos < nI 97
        · simp only [zs_157_0, zs_157_1, zs_157_4, zs_157_5, zs_157_8, zs_157_11, zs_157_12, zs_157_13, zs_157_15, zs_157_18, zs_157_19, zs_157_21, zs_157_24, zs_157_25, zs_157_26, zs_157_29, zs_157_30, zs_157_31, zs_157_33, zs_157_36, zs_157_37, zs_157_39, zs_157_42, zs_157_43, zs_157_44, zs_157_47, zs_157_48, zs_157_49, zs_157_52, zs_157_53, zs_157_56, zs_157_58, zs_157_59, zs_157_60, zs_157_61, zs_157_64, zs_157_66, zs_157_69, zs_157_72, zs_157_73, zs_157_76, zs_157_79, zs_157_80, if_pos g]
        · simp only [zs_157_0, zs_157_1, zs_157_4, zs_157_5, zs_157_8, zs_157_11, zs_157_12, zs_157_13, zs_157_15, zs_157_18, zs_157_19, zs_157_21, zs_157_24, zs_157_25, zs_157_26, zs_157_29, zs_157_30, zs_157_31, zs_157_33, zs_157_36, zs_157_37, zs_157_39, zs_157_42, zs_157_43, zs_157_44, zs_157_47, zs_157_48, zs_157_49, zs_157_52, zs_157_53, zs_157_56, zs_157_58, zs_157_59, zs_157_60, zs_157_61, zs_157_64, zs_157_66, zs_157_69, zs_157_72, zs_157_73, zs_157_76, zs_157_79, zs_157_80, if_neg g, if_pos ((ylet_f h4).resolve_left g)]
      rw [e4]
      have e5 := d_162 (sv := sv) (d := d + 2) hp (by omega)
      cases h5 : yisd (ycat cs pos) with
      | true =>
        rw [h5] at e5
        rw [if_pos rfl]
        have h3 : pos < cs.length := ycat_lt (fun h3 => by rw [h3, y32.2.2.2.2.2.2] at h5; cases h5)
        obtain ⟨h', e6, w1, f1⟩ := d_159 (sv := sv) (d := d) hp (by omega) (by omega)
        unfold ynum2
        cases h6 : yisd (ycat cs (pos + 1)) with
        | true =>
          rw [h6, if_pos rfl, if_pos rfl] at w1
          have h7 : pos + 1 < cs.length := ycat_lt (fun h3 => by rw [h3, y32.2.2.2.2.2.2] at h6; cases h6)
          rw [if_pos rfl]
          refine ⟨h', [(nI 99, nI 10 * (ycat cs pos - nI 48) + (ycat cs (pos + 1) - nI 48), -1, -1)], nI ns.length, ?_, w1, by show 1 + pos ≤ pos + 2; omega, ywf_snoc hw ych_n ych_n (by omega), h7, f1, nI_nm1 (by omega), ych_snoc, by rw [ygt_new (by omega), ygt_n]; rfl⟩
          simp only [zs_157_0, zs_157_1, zs_157_4, zs_157_5, zs_157_8, zs_157_11, zs_157_12, zs_157_13, zs_157_15, zs_157_18, zs_157_19, zs_157_21, zs_157_24, zs_157_25, zs_157_26, zs_157_29, zs_157_30, zs_157_31, zs_157_33, zs_157_36, zs_157_37, zs_157_39, zs_157_42, zs_157_43, zs_157_44, zs_157_47, zs_157_48, zs_157_49, zs_157_52, zs_157_53, zs_157_56, zs_157_58, zs_157_59, zs_157_60, zs_157_61, zs_157_64, zs_157_65, zs_157_66, zs_157_69, zs_157_72, zs_157_73, zs_157_76, zs_157_79, zs_157_80, zPar_rc hp, e5, yb_t, nI_1e0, e6, zbk_v, zts_s, ↓reduceIte]
        | false =>
          rw [h6, if_neg (by decide), if_neg (by decide)] at w1
          rw [if_neg (by decide)]
          refine ⟨h', [(nI 99, ycat cs pos - nI 48, -1, -1)], nI ns.length, ?_, w1, by show 1 + pos ≤ pos + 1; omega, ywf_snoc hw ych_n ych_n (by omega), h3, f1, nI_nm1 (by omega), ych_snoc, by rw [ygt_new (by omega), ygt_n]; rfl⟩
          simp only [zs_157_0, zs_157_1, zs_157_4, zs_157_5, zs_157_8, zs_157_11, zs_157_12, zs_157_13, zs_157_15, zs_157_18, zs_157_19, zs_157_21, zs_157_24, zs_157_25, zs_157_26, zs_157_29, zs_157_30, zs_157_31, zs_157_33, zs_157_36, zs_157_37, zs_157_39, zs_157_42, zs_157_43, zs_157_44, zs_157_47, zs_157_48, zs_157_49, zs_157_52, zs_157_53, zs_157_56, zs_157_58, zs_157_59, zs_157_60, zs_157_61, zs_157_64, zs_157_65, zs_157_66, zs_157_69, zs_157_72, zs_157_73, zs_157_76, zs_157_79, zs_157_80, zPar_rc hp, e5, yb_t, nI_1e0, e6, zbk_v, zts_s, ↓reduceIte]
      | false =>
        rw [h5] at e5
        rw [if_neg (by decide)]
        refine ⟨h, [], -1, ?_, by rw [List.append_nil]; exact hp, by show 0 + pos ≤ pos; omega, by rw [List.append_nil]; exact hw, hl, zfr_rfl, rfl⟩
        simp only [zs_157_0, zs_157_1, zs_157_4, zs_157_5, zs_157_8, zs_157_11, zs_157_12, zs_157_13, zs_157_15, zs_157_18, zs_157_19, zs_157_21, zs_157_24, zs_157_25, zs_157_26, zs_157_29, zs_157_30, zs_157_31, zs_157_33, zs_157_36, zs_157_37, zs_157_39, zs_157_42, zs_157_43, zs_157_44, zs_157_47, zs_157_48, zs_157_49, zs_157_52, zs_157_53, zs_157_56, zs_157_58, zs_157_59, zs_157_60, zs_157_61, zs_157_64, zs_157_65, zs_157_66, zs_157_69, zs_157_72, zs_157_73, zs_157_76, zs_157_79, zs_157_80, zPar_rc hp, e5, yb_f, zbk_v, zts_s, ↓reduceIte]
theorem d_156 {f : Nat} (hA : yPA sv p cs f 0 4 153 6) : yPA sv p cs (f + 1) 4 0 156 4 := by
  intro op pos h ns D hmu hD hop hp hw hn hl
  have hmu2 : 400 * (7 - op) + 5 * (61 - pos) + 0 < f + 1 := hmu
  have h60 := hp.2.1.2.2.1
  obtain ⟨d, rfl⟩ : ∃ d, D = d + 5 := ⟨D - 5, by omega⟩
  obtain ⟨h1, e1, w1, f1⟩ := d_156a (sv := sv) (d := d + 3) (op := nI op) (s3 := .unset) (s4 := .unset) 6 0 pos h rfl hp hl
  have hn6 := yng_le (cs := cs) 6 pos
  have hnl := yng_len (cs := cs) 6 pos hl
  rw [ypa_4]
  obtain ⟨h2, e, x, e2, w2, w3, w4, w5, f2, w6⟩ := d_157 (sv := sv) (D := d + 4) (pos := pos + yng cs pos 6) hA (by omega) (by omega) hop w1 hw (by omega) hnl
  rw [nI_0, Nat.zero_add] at e1
  have e0 : zcall zP sv (d + 5) 156 [.ref p, .int (nI op)] h = zrun zP sv (zcall zP sv (d + 4)) 156 49 [.val (.ref p), .val (.int (nI op)), .val (.int (nI (yng cs pos 6))), .val (.int x), .val (.int 0)] [] h2 := by
    rw [zc_156, zs_156_0, zs_156_1 znw_u, e1]
    simp (disch := exact znw_u) only [zs_156_0, zs_156_1, zs_156_2, zs_156_3, zs_156_5, zs_156_8, zs_156_9, zs_156_12, zs_156_13, zs_156_16, zs_156_19, zs_156_21, zs_156_24, zs_156_27, zs_156_28, zs_156_29, zs_156_32, zs_156_33, zs_156_34, zs_156_37, zs_156_40, zs_156_41, zs_156_42, zs_156_45, zs_156_46, zs_156_47, zs_156_51, zs_156_52, zs_156_55, zs_156_56, zs_156_57, zs_156_60, zs_156_61, zs_156_64, zs_156_65, zs_156_68, zs_156_69, zs_156_72, zs_156_75, zs_156_76, zPar_rc w1, e2, zbk_v, zts_s]
  rw [e0]
  have hlen : (ns ++ e).length = ns.length + e.length := List.length_append
  cases hr : (ypu cs f op (pos + yng cs pos 6)).1 with
  | none =>
    rw [hr] at w6
    have hx : x = -1 := w6
    subst hx
    refine ⟨h2, e, -1, ?_, w2, by show e.length + pos ≤ (ypu cs f op (pos + yng cs pos 6)).2; omega, w4, w5, zfr_tr f1 f2, rfl⟩
    cases hz : yng cs pos 6 with
    | zero => simp only [zs_156_0, zs_156_1, zs_156_2, zs_156_3, zs_156_5, zs_156_8, zs_156_9, zs_156_12, zs_156_13, zs_156_16, zs_156_19, zs_156_21, zs_156_24, zs_156_27, zs_156_28, zs_156_29, zs_156_32, zs_156_33, zs_156_34, zs_156_37, zs_156_40, zs_156_41, zs_156_42, zs_156_45, zs_156_46, zs_156_47, zs_156_49, zs_156_51, zs_156_52, zs_156_55, zs_156_56, zs_156_57, zs_156_60, zs_156_61, zs_156_64, zs_156_65, zs_156_68, zs_156_69, zs_156_72, zs_156_75, zs_156_76, nI_0, Int32.lt_irrefl, ↓reduceIte]
    | succ k =>
      have g : (0 : Int32) < nI (k + 1) := by rw [← nI_0]; exact nI_lt (by omega) (by omega)
      simp only [zs_156_0, zs_156_1, zs_156_2, zs_156_3, zs_156_5, zs_156_8, zs_156_9, zs_156_12, zs_156_13, zs_156_16, zs_156_19, zs_156_21, zs_156_24, zs_156_27, zs_156_28, zs_156_29, zs_156_32, zs_156_33, zs_156_34, zs_156_37, zs_156_40, zs_156_41, zs_156_42, zs_156_45, zs_156_46, zs_156_47, zs_156_49, zs_156_51, zs_156_52, zs_156_55, zs_156_56, zs_156_57, zs_156_60, zs_156_61, zs_156_64, zs_156_65, zs_156_68, zs_156_69, zs_156_72, zs_156_75, zs_156_76, if_pos g, nI_m1e, ↓reduceIte]
  | some t =>
    rw [hr] at w6
    obtain ⟨h3, e', x', e3, p3, l3, z3, f3, t3⟩ := d_156b (sv := sv) (d := d + 1) (op := nI op) (n := yng cs pos 6) hn6 (yng cs pos 6) 0 h2 e x t (Nat.zero_add _) w2 w4 (by omega) w6
    rw [nI_0] at e3
    exact ⟨h3, e', x', e3, p3, by show e'.length + pos ≤ (ypu cs f op (pos + yng cs pos 6)).2; omega, z3, w5, zfr_tr (zfr_tr f1 f2) f3, t3⟩
theorem d_par : ∀ f, yPA sv p cs f 0 4 153 6 ∧ yPL sv p cs f 1 3 153 5 ∧ yPA sv p cs f 2 2 154 5 ∧ yPL sv p cs f 3 1 154 4 ∧ yPA sv p cs f 4 0 156 4
  | 0 => ⟨fun _ _ _ _ _ h => absurd h (Nat.not_lt_zero _), fun _ _ _ _ _ _ _ _ _ _ h => absurd h (Nat.not_lt_zero _), fun _ _ _ _ _ h => absurd h (Nat.not_lt_zero _), fun _ _ _ _ _ _ _ _ _ _ h => absurd h (Nat.not_lt_zero _), fun _ _ _ _ _ h => absurd h (Nat.not_lt_zero _)⟩
  | f + 1 => by
    obtain ⟨i1, i2, i3, i4, i5⟩ := d_par f
    exact ⟨d_153 i3 i2, d_153l i3 i2, d_154 i5 i4, d_154l i5 i4, d_156 i1⟩
end ZDV

/-- a range may change, cells may be made: at most N objects and M slots -/
def zfx (lo hi N M : Nat) (h h' : zH) : Prop := (∀ q, q < h.2.1 → (q < lo ∨ hi ≤ q) → h'.1 q = h.1 q) ∧ h.2.1 ≤ h'.2.1 ∧ h'.2.1 ≤ h.2.1 + N ∧ h'.2.2 ≤ h.2.2 + M
theorem zfx_fr {lo hi a b : Nat} {h h' : zH} (hf : zfr a b h h') (h1 : lo ≤ a) (h2 : b ≤ hi) : zfx lo hi 0 0 h h' := ⟨fun q _ hq => hf.1 q (by omega), by rw [hf.2]; exact Nat.le_refl _, by rw [hf.2]; exact Nat.le_refl _, by rw [hf.2]; exact Nat.le_refl _⟩
theorem zfx_tr {lo hi N M N' M' : Nat} {h h' h'' : zH} (h1 : zfx lo hi N M h h') (h2 : zfx lo hi N' M' h' h'') : zfx lo hi (N + N') (M + M') h h'' := ⟨fun q hq hr => (h2.1 q (Nat.lt_of_lt_of_le hq h1.2.1) hr).trans (h1.1 q hq hr), Nat.le_trans h1.2.1 h2.2.1, by have := h1.2.2.1; have := h2.2.2.1; omega, by have := h1.2.2.2; have := h2.2.2.2; omega⟩
theorem zfx_mono {lo hi N M lo' hi' N' M' : Nat} {h h' : zH} (h1 : zfx lo hi N M h h') (ha : lo' ≤ lo) (hb : hi ≤ hi') (hc : N ≤ N') (hd : M ≤ M') : zfx lo' hi' N' M' h h' := ⟨fun q hq hr => h1.1 q hq (by omega), h1.2.1, by have := h1.2.2.1; omega, by have := h1.2.2.2; omega⟩
theorem zfx_rfl {lo hi : Nat} {h : zH} : zfx lo hi 0 0 h h := ⟨fun _ _ _ => rfl, Nat.le_refl _, Nat.le_refl _, Nat.le_refl _⟩
theorem zcg_fx {lo hi a b N M : Nat} {h h' : zH} (hf : zfx a b N M h h') (h1 : hi ≤ a ∨ b ≤ lo) (h2 : hi ≤ h.2.1) : zcg lo hi h h' := fun q h3 h4 => hf.1 q (by omega) (by omega)
theorem zfx_new {lo hi : Nat} {h : zH} {L : List zC} {S : Nat} : zfx lo hi L.length S h (zext h L S) := ⟨fun q hq _ => zext_lo hq, by rw [zext_sz]; omega, by rw [zext_sz]; omega, Nat.le_refl _⟩
def zECc (m : Nat) (le ik : Int32) : zC := (1, [.ref (m + 1), .int le, .ref (m + 3), .ref (m + 7), .int ik, .ref (m + 11), .ref (m + 45), .ref (m + 54), .ref (m + 63), .ref (m + 75), .ref (m + 78), .ref (m + 85), .ref (m + 97)])
theorem ymap0 {n : Nat} : (List.replicate n (0 : Int32)).map Value.int = List.replicate n (.int 0) := List.map_replicate
section ZDW
variable {sv : Nat → Value} {d : Nat} {h : zH} {m w mw : Nat} {le ik x : Int32} {ns : List yN} {A B C : List Int32}
theorem d_75 (he : h.1 m = zECc m le ik) (hg : zGau h (m + 78) A B C) (hw : zTre h w mw ns) (hwf : ywf ns) (hn : ns.length ≤ 124) (hd : m + 85 ≤ w ∨ w + 9 ≤ m + 78) (hb1 : w + 9 ≤ h.2.1) (hb2 : m + 119 ≤ h.2.1) (hx : ych ns.length x) (hs0 : 0 < ysz (ygt (ytm ns) x)) (hs : ysz (ygt (ytm ns) x) ≤ 60000) (hdp : ydp (ygt (ytm ns) x) ≤ 40) : ∃ h' A', zcall zP sv (d + 45) 75 [.ref m, .ref w, .int x] h = some (.inl (some (.ref h.2.1)), h') ∧ zGau h' (m + 78) A' B C ∧ zTre h' h.2.1 (ysz (ygt (ytm ns) x)) (ypo 0 (ygt (ytm ns) x)) ∧ (∀ q, q < h.2.1 → (q < m + 78 ∨ m + 85 ≤ q) → h'.1 q = h.1 q) ∧ h'.2.1 = h.2.1 + 9 ∧ h'.2.2 = h.2.2 + 6 + 4 * (1 + ysz (ygt (ytm ns) x)) := by
  generalize ht : ygt (ytm ns) x = t at *
  have l0 : ∀ q, q < h.2.1 → (zext h [(6, [.null, .null, .null, .null, .int 0, .int 0])] 6).1 q = h.1 q := fun q hq => zext_lo hq
  have e0 : (zext h [(6, [.null, .null, .null, .null, .int 0, .int 0])] 6).1 m = zECc m le ik := by rw [l0 m (by omega), he]
  have g0 : zGau (zext h [(6, [.null, .null, .null, .null, .int 0, .int 0])] 6) (m + 78) A B C := zGau_cg hg (fun q h1 h2 => l0 q (by omega))
  have w0 : zTre (zext h [(6, [.null, .null, .null, .null, .int 0, .int 0])] 6) w mw ns := zTre_cg hw (fun q h1 h2 => l0 q (by omega))
  have r0 : (zext h [(6, [.null, .null, .null, .null, .int 0, .int 0])] 6).1 h.2.1 = (6, [.null, .null, .null, .null, .int 0, .int 0]) := zext_0
  have s0 : (zext h [(6, [.null, .null, .null, .null, .int 0, .int 0])] 6).2 = (h.2.1 + 1, h.2.2 + 6) := rfl
  have eq0 : znew h (6, [.null, .null, .null, .null, .int 0, .int 0]) 6 = zext h [(6, [.null, .null, .null, .null, .int 0, .int 0])] 6 := zext_of _ _ _
  generalize zext h [(6, [.null, .null, .null, .null, .int 0, .int 0])] 6 = h1 at *
  obtain ⟨h2, A', e1, g1, q1, f1⟩ := d_117 (sv := sv) (d := d + 40) (rt := x) hwf (by omega) hn w0 g0
  have hv : yg A' x = nI (ysz t) := by rw [yQ_g q1 hx (Nat.le_refl _) hwf.1, ht, yfo_N]
  rw [hv] at e1
  have r1 : h2.1 h.2.1 = (6, [.null, .null, .null, .null, .int 0, .int 0]) := by rw [f1.1 _ (by omega), r0]
  have s1 : h2.2 = (h.2.1 + 1, h.2.2 + 6) := by rw [f1.2, s0]
  have sz1 : h2.2.1 = h.2.1 + 1 := by rw [s1]
  have sl1 : h2.2.2 = h.2.2 + 6 := by rw [s1]
  have e2 := c_Tree (sv := sv) (d := d + 42) (h := h2) (r := h.2.1) (n := ysz t) r1 (by omega) hs0 (by omega)
  rw [sz1] at e2
  have l2 : ∀ q, q < h.2.1 → ∀ c L S, (zext (zup h2 h.2.1 c) L S).1 q = h2.1 q := fun q hq c L S => by rw [zext_lo (by rw [zup_sz, sz1]; omega), zup_ne (by omega)]
  have k2 : ∀ c L S j, (zext (zup h2 h.2.1 c) L S).1 (h.2.1 + 1 + j) = (L[j]?).getD ((zup h2 h.2.1 c).1 (h.2.1 + 1 + j)) := fun c L S j => by
    have := zext_hi (h := zup h2 h.2.1 c) (L := L) (S := S) (k := j)
    rw [zup_sz, sz1] at this
    exact this
  have t2 : ∀ c L S, (zext (zup h2 h.2.1 c) L S).1 h.2.1 = c := fun c L S => by rw [zext_lo (by rw [zup_sz, sz1]; omega), zup_at]
  obtain ⟨h3, rfl⟩ : ∃ h3, h3 = zext (zup h2 h.2.1 (6, [.ref (h.2.1 + 1), .ref (h.2.1 + 1 + 2), .ref (h.2.1 + 1 + 4), .ref (h.2.1 + 1 + 6), .int (nI (ysz t)), .int 0])) [(4, [.ref (h.2.1 + 1 + 1)]), (20, List.replicate (ysz t) (.int 0)), (4, [.ref (h.2.1 + 1 + 3)]), (20, List.replicate (ysz t) (.int 0)), (4, [.ref (h.2.1 + 1 + 5)]), (20, List.replicate (ysz t) (.int 0)), (4, [.ref (h.2.1 + 1 + 7)]), (20, List.replicate (ysz t) (.int 0))] (1 + ysz t + (1 + ysz t + (1 + ysz t + (1 + ysz t)))) := ⟨_, rfl⟩
  have T3 : zTre (zext (zup h2 h.2.1 (6, [.ref (h.2.1 + 1), .ref (h.2.1 + 1 + 2), .ref (h.2.1 + 1 + 4), .ref (h.2.1 + 1 + 6), .int (nI (ysz t)), .int 0])) [(4, [.ref (h.2.1 + 1 + 1)]), (20, List.replicate (ysz t) (.int 0)), (4, [.ref (h.2.1 + 1 + 3)]), (20, List.replicate (ysz t) (.int 0)), (4, [.ref (h.2.1 + 1 + 5)]), (20, List.replicate (ysz t) (.int 0)), (4, [.ref (h.2.1 + 1 + 7)]), (20, List.replicate (ysz t) (.int 0))] (1 + ysz t + (1 + ysz t + (1 + ysz t + (1 + ysz t))))) h.2.1 (ysz t) [] := by
    refine ⟨List.replicate (ysz t) 0, List.replicate (ysz t) 0, List.replicate (ysz t) 0, List.replicate (ysz t) 0, t2 _ _ _, ⟨⟨?_, ?_, ?_⟩, ⟨?_, ?_, ?_⟩, ⟨?_, ?_, ?_⟩, ⟨?_, ?_, ?_⟩⟩, ⟨List.length_replicate, List.length_replicate, List.length_replicate, List.length_replicate, Nat.zero_le _⟩, rfl, rfl, rfl, rfl⟩
    · exact k2 _ _ _ 0
    · rw [ymap0]; exact k2 _ _ _ 1
    · rw [List.length_replicate]; omega
    · exact k2 _ _ _ 2
    · rw [ymap0]; exact k2 _ _ _ 3
    · rw [List.length_replicate]; omega
    · exact k2 _ _ _ 4
    · rw [ymap0]; exact k2 _ _ _ 5
    · rw [List.length_replicate]; omega
    · exact k2 _ _ _ 6
    · rw [ymap0]; exact k2 _ _ _ 7
    · rw [List.length_replicate]; omega
  have W3 := zTre_cg (zTre_fr w0 f1 (by omega)) (fun q a1 a2 => l2 q (by omega) (6, [.ref (h.2.1 + 1), .ref (h.2.1 + 1 + 2), .ref (h.2.1 + 1 + 4), .ref (h.2.1 + 1 + 6), .int (nI (ysz t)), .int 0]) [(4, [.ref (h.2.1 + 1 + 1)]), (20, List.replicate (ysz t) (.int 0)), (4, [.ref (h.2.1 + 1 + 3)]), (20, List.replicate (ysz t) (.int 0)), (4, [.ref (h.2.1 + 1 + 5)]), (20, List.replicate (ysz t) (.int 0)), (4, [.ref (h.2.1 + 1 + 7)]), (20, List.replicate (ysz t) (.int 0))] (1 + ysz t + (1 + ysz t + (1 + ysz t + (1 + ysz t)))))
  have G3 := zGau_cg g1 (fun q a1 a2 => l2 q (by omega) (6, [.ref (h.2.1 + 1), .ref (h.2.1 + 1 + 2), .ref (h.2.1 + 1 + 4), .ref (h.2.1 + 1 + 6), .int (nI (ysz t)), .int 0]) [(4, [.ref (h.2.1 + 1 + 1)]), (20, List.replicate (ysz t) (.int 0)), (4, [.ref (h.2.1 + 1 + 3)]), (20, List.replicate (ysz t) (.int 0)), (4, [.ref (h.2.1 + 1 + 5)]), (20, List.replicate (ysz t) (.int 0)), (4, [.ref (h.2.1 + 1 + 7)]), (20, List.replicate (ysz t) (.int 0))] (1 + ysz t + (1 + ysz t + (1 + ysz t + (1 + ysz t)))))
  have S3 : (zext (zup h2 h.2.1 (6, [.ref (h.2.1 + 1), .ref (h.2.1 + 1 + 2), .ref (h.2.1 + 1 + 4), .ref (h.2.1 + 1 + 6), .int (nI (ysz t)), .int 0])) [(4, [.ref (h.2.1 + 1 + 1)]), (20, List.replicate (ysz t) (.int 0)), (4, [.ref (h.2.1 + 1 + 3)]), (20, List.replicate (ysz t) (.int 0)), (4, [.ref (h.2.1 + 1 + 5)]), (20, List.replicate (ysz t) (.int 0)), (4, [.ref (h.2.1 + 1 + 7)]), (20, List.replicate (ysz t) (.int 0))] (1 + ysz t + (1 + ysz t + (1 + ysz t + (1 + ysz t))))).2 = (h.2.1 + 1 + 8, h.2.2 + 6 + (1 + ysz t + (1 + ysz t + (1 + ysz t + (1 + ysz t))))) := by
    show (h2.2.1 + 8, h2.2.2 + (1 + ysz t + (1 + ysz t + (1 + ysz t + (1 + ysz t))))) = _
    rw [sz1, sl1]
  have L3 := fun q hq => l2 q hq (6, [.ref (h.2.1 + 1), .ref (h.2.1 + 1 + 2), .ref (h.2.1 + 1 + 4), .ref (h.2.1 + 1 + 6), .int (nI (ysz t)), .int 0]) [(4, [.ref (h.2.1 + 1 + 1)]), (20, List.replicate (ysz t) (.int 0)), (4, [.ref (h.2.1 + 1 + 3)]), (20, List.replicate (ysz t) (.int 0)), (4, [.ref (h.2.1 + 1 + 5)]), (20, List.replicate (ysz t) (.int 0)), (4, [.ref (h.2.1 + 1 + 7)]), (20, List.replicate (ysz t) (.int 0))] (1 + ysz t + (1 + ysz t + (1 + ysz t + (1 + ysz t))))
  generalize zext (zup h2 h.2.1 (6, [.ref (h.2.1 + 1), .ref (h.2.1 + 1 + 2), .ref (h.2.1 + 1 + 4), .ref (h.2.1 + 1 + 6), .int (nI (ysz t)), .int 0])) [(4, [.ref (h.2.1 + 1 + 1)]), (20, List.replicate (ysz t) (.int 0)), (4, [.ref (h.2.1 + 1 + 3)]), (20, List.replicate (ysz t) (.int 0)), (4, [.ref (h.2.1 + 1 + 5)]), (20, List.replicate (ysz t) (.int 0)), (4, [.ref (h.2.1 + 1 + 7)]), (20, List.replicate (ysz t) (.int 0))] (1 + ysz t + (1 + ysz t + (1 + ysz t + (1 + ysz t)))) = h3 at *
  obtain ⟨h4, e3, T4, f4⟩ := d_86 (sv := sv) hwf (show w + 9 ≤ h.2.1 ∨ h.2.1 + 9 ≤ w by omega) t x (d + 44) 1 h3 [] hx ht (by omega) (by omega) (by show 0 + ysz t ≤ ysz t; omega) W3 T3
  refine ⟨h4, A', ?_, zGau_fr G3 f4 (by omega), T4, fun q hq hr => by rw [f4.1 q (by omega), L3 q hq, f1.1 q (by omega), l0 q hq], by rw [f4.2, S3], by rw [f4.2, S3]; show h.2.2 + 6 + (1 + ysz t + (1 + ysz t + (1 + ysz t + (1 + ysz t)))) = _; omega⟩
  have rc6 : ∀ X : zR, zrc (h2.1 h.2.1) 6 X = X := fun X => by rw [r1]; exact zrc_k
  simp (disch := exact znw_u) only [zc_75, zs_75_0, zs_75_3, zs_75_4, zs_75_5, zs_75_8, zs_75_9, zs_75_10, zs_75_13, zs_75_16, zs_75_17, zs_75_18, zs_75_19, zs_75_20, zs_75_21, zs_75_24, zs_75_25, zs_75_26, eq0, e0, zECc, zrc_1, zf_1_0, zp_1_0, zp_1_0n, zf_1_1, zp_1_1, zf_1_2, zp_1_2, zp_1_2n, zf_1_3, zp_1_3, zp_1_3n, zf_1_4, zp_1_40, zp_1_41, zf_1_5, zp_1_5, zp_1_5n, zf_1_6, zp_1_6, zp_1_6n, zf_1_7, zp_1_7, zp_1_7n, zf_1_8, zp_1_8, zp_1_8n, zf_1_9, zp_1_9, zp_1_9n, zf_1_10, zp_1_10, zp_1_10n, zf_1_11, zp_1_11, zp_1_11n, zf_1_12, zp_1_12, zp_1_12n, zGau_rc g0, e1, rc6, e2, e3, zbk_v, zts_s, zts_n]
end ZDW

/-- well-formed terms -/
def ytw : yT → Bool
  | .leaf => false
  | .inner n k v l r => decide (n = 0) && ((decide (k = nI 99) && !ynl l && !ynl r) || (decide (k = nI 118) && ylet v && !ynl l && !ynl r) || (decide (k = nI 110) && decide (v = 0) && ytw l && !ynl r) || (yis k && decide (v = 0) && ytw l && ytw r))
def ytok (t : yT) : Prop := ytw t = true ∧ ysz t ≤ 31 ∧ ydp t ≤ 8
/-- what can be undone and saved: formulas, letters, machine, removed -/
abbrev yA : Type := List yT × List Int32 × Int32 × Int32
def yAok (A : yA) : Prop := A.1.length ≤ 6 ∧ (∀ t, t ∈ A.1 → ytok t) ∧ A.2.1.length = 6
def zFs (h : zH) (m : Nat) (as : List Nat) (ts : List yT) : Prop := as.length = ts.length ∧ ∀ (i a : Nat) (t : yT), as[i]? = some a → ts[i]? = some t → m + 139 ≤ a ∧ a + 9 ≤ h.2.1 ∧ zTre h a (ysz t) (ypo 0 t)
def zAS (h : zH) (m : Nat) (S : yS) (A : yA) : Prop := S.2 = A.2 ∧ zFs h m S.1 A.1 ∧ yAok A
def zNum (h : zH) (u : Nat) : Prop := h.1 u = (11, [.ref (u + 1), .ref (u + 10)]) ∧ (∃ ns, zTre h (u + 1) 62 ns) ∧ ∃ B, zRow h (u + 10) B ∧ B.length = 31
def zCod (h : zH) (c : Nat) : Prop := (∃ le ma : Int32, h.1 c = (12, [.ref (c + 8), .ref (c + 10), .ref (c + 12), .ref (c + 14), .ref (c + 16), .int le, .ref (c + 1), .ref (c + 18), .ref (c + 20), .int ma])) ∧ (∃ A B C, zGau h (c + 1) A B C) ∧ (∃ A, zRow h (c + 8) A ∧ A.length = 62) ∧ (∃ A, zRow h (c + 10) A ∧ A.length = 62) ∧ (∃ A, zRow h (c + 12) A ∧ A.length = 62) ∧ (∃ A, zRow h (c + 14) A ∧ A.length = 62) ∧ (∃ A, zRow h (c + 16) A ∧ A.length = 62) ∧ (∃ A, zRow h (c + 18) A ∧ A.length = 7 ∧ ∀ x, x ∈ A → x = 0) ∧ ∃ A, zRow h (c + 20) A ∧ A.length = 11
def zScr (h : zH) (m : Nat) : Prop := (∃ ns, zTre h (m + 45) 124 ns) ∧ (∃ ns, zTre h (m + 54) 124 ns) ∧ (∃ P, zAl h (m + 75) P) ∧ (∃ A B C, zGau h (m + 78) A B C) ∧ zNum h (m + 85) ∧ zCod h (m + 97)
/-- the output: a builder's object and its bytes -/
def zOut (h : zH) (m : Nat) (o : List Int32) : Prop := ∃ (v : Nat) (B : List Int32) (u : Int32), h.1 (m + 1) = (2, [.ref v, .int 0, .int u, .int (nI o.length)]) ∧ h.1 v = (24, B.map Value.int) ∧ (v = m + 2 ∨ (m + 139 ≤ v ∧ v < h.2.1)) ∧ o.length ≤ B.length ∧ B.take o.length = o ∧ B.length ≤ 1000 ∧ ∀ x, x ∈ B → zty 6 (.int x) = true
/-- what the class's object stands for: buffer, latest error, whether a state is kept, current, kept, history, output -/
abbrev yW : Type := List Int32 × Int32 × Bool × yA × yA × List yA × List Int32
def zHs (h : zH) (m : Nat) (H : List yS) (HA : List yA) : Prop := H.length = HA.length ∧ ∀ (j : Nat) (S : yS) (A : yA), H[j]? = some S → HA[j]? = some A → zAS h m S A
def zCls (h : zH) (m : Nat) (w : yW) : Prop := m + 139 ≤ h.2.1 ∧ h.1 m = zECc m w.2.1 (yb w.2.2.1) ∧ (∃ S, zSta h (m + 3) S ∧ zAS h m S w.2.2.2.1) ∧ (∃ S, zSta h (m + 7) S ∧ zAS h m S w.2.2.2.2.1) ∧ (∃ H, zHis h (m + 11) H ∧ zHs h m H w.2.2.2.2.2.1) ∧ (∃ pos ns, zPar h (m + 63) w.1 pos ns) ∧ zScr h m ∧ zOut h m w.2.2.2.2.2.2
theorem zNum_cg {h h' : zH} {u : Nat} (hn : zNum h u) (hf : zcg u (u + 12) h h') : zNum h' u := by
  obtain ⟨h1, ⟨ns, h2⟩, B, h3, h4⟩ := hn
  exact ⟨by rw [hf u (by omega) (by omega), h1], ⟨ns, zTre_cg h2 (zcg_mono hf (by omega) (by omega))⟩, B, zRow_cg h3 (zcg_mono hf (by omega) (by omega)), h4⟩
theorem zCod_cg {h h' : zH} {c : Nat} (hn : zCod h c) (hf : zcg c (c + 22) h h') : zCod h' c := by
  obtain ⟨⟨le, ma, h1⟩, ⟨A, B, C, h2⟩, ⟨A1, a1, b1⟩, ⟨A2, a2, b2⟩, ⟨A3, a3, b3⟩, ⟨A4, a4, b4⟩, ⟨A5, a5, b5⟩, ⟨A6, a6, b6⟩, A7, a7, b7⟩ := hn
  exact ⟨⟨le, ma, by rw [hf c (by omega) (by omega), h1]⟩, ⟨A, B, C, zGau_cg h2 (zcg_mono hf (by omega) (by omega))⟩, ⟨A1, zRow_cg a1 (zcg_mono hf (by omega) (by omega)), b1⟩, ⟨A2, zRow_cg a2 (zcg_mono hf (by omega) (by omega)), b2⟩, ⟨A3, zRow_cg a3 (zcg_mono hf (by omega) (by omega)), b3⟩, ⟨A4, zRow_cg a4 (zcg_mono hf (by omega) (by omega)), b4⟩, ⟨A5, zRow_cg a5 (zcg_mono hf (by omega) (by omega)), b5⟩, ⟨A6, zRow_cg a6 (zcg_mono hf (by omega) (by omega)), b6⟩, A7, zRow_cg a7 (zcg_mono hf (by omega) (by omega)), b7⟩
theorem zScr_cg {h h' : zH} {m : Nat} (hs : zScr h m) (h1 : zcg (m + 45) (m + 63) h h') (h2 : zcg (m + 75) (m + 119) h h') : zScr h' m := by
  obtain ⟨⟨n1, a1⟩, ⟨n2, a2⟩, ⟨P, a3⟩, ⟨A, B, C, a4⟩, a5, a6⟩ := hs
  exact ⟨⟨n1, zTre_cg a1 (zcg_mono h1 (by omega) (by omega))⟩, ⟨n2, zTre_cg a2 (zcg_mono h1 (by omega) (by omega))⟩, ⟨P, zAl_cg a3 (zcg_mono h2 (by omega) (by omega))⟩, ⟨A, B, C, zGau_cg a4 (zcg_mono h2 (by omega) (by omega))⟩, zNum_cg a5 (zcg_mono h2 (by omega) (by omega)), zCod_cg a6 (zcg_mono h2 (by omega) (by omega))⟩
/-- formulas stay -/
def zkp (m : Nat) (h h' : zH) : Prop := (∀ q, m + 139 ≤ q → q < h.2.1 → h'.1 q = h.1 q) ∧ h.2.1 ≤ h'.2.1
theorem zFs_kp {h h' : zH} {m : Nat} {as : List Nat} {ts : List yT} (hf : zFs h m as ts) (hk : zkp m h h') : zFs h' m as ts := ⟨hf.1, fun i a t h1 h2 => by
  obtain ⟨g1, g2, g3⟩ := hf.2 i a t h1 h2
  exact ⟨g1, Nat.le_trans g2 hk.2, zTre_cg g3 (fun q q1 q2 => hk.1 q (by omega) (by omega))⟩⟩
theorem zAS_kp {h h' : zH} {m : Nat} {S : yS} {A : yA} (hf : zAS h m S A) (hk : zkp m h h') : zAS h' m S A := ⟨hf.1, zFs_kp hf.2.1 hk, hf.2.2⟩
theorem zHs_kp {h h' : zH} {m : Nat} {H : List yS} {HA : List yA} (hf : zHs h m H HA) (hk : zkp m h h') : zHs h' m H HA := ⟨hf.1, fun j S A h1 h2 => zAS_kp (hf.2 j S A h1 h2) hk⟩
theorem zOut_kp {h h' : zH} {m : Nat} {o : List Int32} (ho : zOut h m o) (hk : zkp m h h') (hc : zcg (m + 1) (m + 3) h h') : zOut h' m o := by
  obtain ⟨v, B, u, h1, h2, h3, h4⟩ := ho
  refine ⟨v, B, u, by rw [hc _ (by omega) (by omega), h1], ?_, ?_, h4⟩
  · rcases h3 with rfl | ⟨g1, g2⟩
    · rw [hc _ (by omega) (by omega), h2]
    · rw [hk.1 v g1 g2, h2]
  · rcases h3 with g | ⟨g1, g2⟩
    · exact Or.inl g
    · exact Or.inr ⟨g1, Nat.lt_of_lt_of_le g2 hk.2⟩
theorem zkp_fx {m N M lo hi : Nat} {h h' : zH} (hf : zfx lo hi N M h h') (hh : hi ≤ m + 139) : zkp m h h' := ⟨fun q h1 h2 => hf.1 q h2 (by omega), hf.2.1⟩
theorem zkp_fr {m lo hi : Nat} {h h' : zH} (hf : zfr lo hi h h') (hh : hi ≤ m + 139) : zkp m h h' := ⟨fun q h1 h2 => hf.1 q (by omega), by rw [hf.2]; exact Nat.le_refl _⟩
theorem zkp_tr {m : Nat} {h h' h'' : zH} (h1 : zkp m h h') (h2 : zkp m h' h'') : zkp m h h'' := ⟨fun q a b => (h2.1 q a (Nat.lt_of_lt_of_le b h1.2)).trans (h1.1 q a b), Nat.le_trans h1.2 h2.2⟩
theorem zK6_of {h : zH} {m : Nat} {S : yS} {A : yA} (ha : zAS h m S A) : zK6 h S.1 ∧ ∀ a, a ∈ S.1 → m + 139 ≤ a := by
  have key : ∀ a, a ∈ S.1 → ∃ t, m + 139 ≤ a ∧ zTre h a (ysz t) (ypo 0 t) := fun a h1 => by
    obtain ⟨i, hi, rfl⟩ := List.getElem_of_mem h1
    have h2 := ha.2.1.1
    obtain ⟨g1, _, g3⟩ := ha.2.1.2 i S.1[i] (A.1[i]'(by omega)) (List.getElem?_eq_getElem hi) (List.getElem?_eq_getElem _)
    exact ⟨_, g1, g3⟩
  refine ⟨fun a h1 => ?_, fun a h1 => ?_⟩
  · obtain ⟨t, _, K, N, L, R, e, _⟩ := key a h1
    exact ⟨_, e⟩
  · obtain ⟨t, e, _⟩ := key a h1
    exact e
/-- all but the scratch stays -/
theorem zCls_q {h h' : zH} {m : Nat} {w : yW} (hc : zCls h m w) (h1 : zcg m (m + 45) h h') (h2 : zcg (m + 63) (m + 75) h h') (hk : zkp m h h') (hs : zScr h' m) : zCls h' m w := by
  obtain ⟨c0, c1, ⟨S, s1, s2⟩, ⟨T, t1, t2⟩, ⟨H, k1, k2⟩, ⟨pos, ns, p1⟩, c7, c8⟩ := hc
  exact ⟨Nat.le_trans c0 hk.2, by rw [h1 m (by omega) (by omega), c1], ⟨S, zSta_cg s1 (zcg_mono h1 (by omega) (by omega)), zAS_kp s2 hk⟩, ⟨T, zSta_cg t1 (zcg_mono h1 (by omega) (by omega)), zAS_kp t2 hk⟩, ⟨H, zHis_cg k1 (zcg_mono h1 (by omega) (by omega)), zHs_kp k2 hk⟩, ⟨pos, ns, zPar_cg p1 (zcg_mono h2 (by omega) (by omega))⟩, hs, zOut_kp c8 hk (zcg_mono h1 (by omega) (by omega))⟩
theorem zCls_new {h h' : zH} {m : Nat} {w : yW} (hc : zCls h m w) (h1 : ∀ q, q < h.2.1 → h'.1 q = h.1 q) (h2 : h.2.1 ≤ h'.2.1) : zCls h' m w := by
  have c0 := hc.1
  have c7 := hc.2.2.2.2.2.2.1
  exact zCls_q hc (fun q a b => h1 q (by omega)) (fun q a b => h1 q (by omega)) ⟨fun q _ b => h1 q b, h2⟩ (zScr_cg c7 (fun q a b => h1 q (by omega)) (fun q a b => h1 q (by omega)))
theorem ycase (x : Int32) {n : Nat} (hn : n < 2 ^ 31) : (x < 0 ∨ ¬ x < nI n) ∨ ∃ i, i < n ∧ x = nI i := by
  by_cases h0 : x < 0
  · exact Or.inl (Or.inl h0)
  · obtain ⟨i, hi, rfl⟩ := nI_of h0
    by_cases h1 : i < n
    · exact Or.inr ⟨i, h1, rfl⟩
    · exact Or.inl (Or.inr (nI_nlt (by omega) hi))
section ZDX
variable {sv : Nat → Value} {d : Nat} {h : zH} {m : Nat} {w : yW}
theorem d_70n {x : Int32} (hc : zCls h m w) (hx : x < 0 ∨ ¬ x < nI w.2.2.2.1.1.length) : zcall zP sv (d + 2) 70 [.ref m, .int x] h = some (.inr 2, zext h [(0, [])] 6) := by
  obtain ⟨c0, c1, ⟨S, s1, s2⟩, _⟩ := hc
  have e1 := d_173n (sv := sv) (d := d) (x := x) s1 (by rw [s2.2.1.1]; exact hx)
  simp (disch := exact znw_u) only [zc_70, zs_70_0, zs_70_0n, zs_70_1, zs_70_4, zs_70_5, zs_70_8, zs_70_8n, zs_70_9, zs_70_9n, zs_70_10, zs_70_10n, zs_70_13, zs_70_24, zs_70_24n, zs_70_25, zs_70_25n, c1, zECc, zrc_1, zf_1_0, zp_1_0, zp_1_0n, zf_1_1, zp_1_1, zf_1_2, zp_1_2, zp_1_2n, zf_1_3, zp_1_3, zp_1_3n, zf_1_4, zp_1_40, zp_1_41, zf_1_5, zp_1_5, zp_1_5n, zf_1_6, zp_1_6, zp_1_6n, zf_1_7, zp_1_7, zp_1_7n, zf_1_8, zp_1_8, zp_1_8n, zf_1_9, zp_1_9, zp_1_9n, zf_1_10, zp_1_10, zp_1_10n, zf_1_11, zp_1_11, zp_1_11n, zf_1_12, zp_1_12, zp_1_12n, zSta_rc s1, e1, zbk_v, zts_s, zext_of]
theorem d_70k {i : Nat} {t : yT} (hc : zCls h m w) (ht : w.2.2.2.1.1[i]? = some t) : ∃ a : Nat, zcall zP sv (d + 2) 70 [.ref m, .int (nI i)] h = some (.inl (some (.ref a)), h) ∧ m + 139 ≤ a ∧ a + 9 ≤ h.2.1 ∧ zTre h a (ysz t) (ypo 0 t) ∧ ytok t := by
  obtain ⟨c0, c1, ⟨S, s1, s2⟩, _⟩ := hc
  have hi := (List.getElem?_eq_some_iff.mp ht).1
  have hl := s2.2.1.1
  obtain ⟨a, ha⟩ : ∃ a, S.1[i]? = some a := ⟨S.1[i]'(by omega), List.getElem?_eq_getElem _⟩
  obtain ⟨g1, g2, g3⟩ := s2.2.1.2 i a t ha ht
  have e1 := d_173k (sv := sv) (d := d) s1 ha
  refine ⟨a, ?_, g1, g2, g3, s2.2.2.2.1 t (List.mem_of_getElem? ht)⟩
  simp (disch := exact znw_u) only [zc_70, zs_70_0, zs_70_0n, zs_70_1, zs_70_4, zs_70_5, zs_70_8, zs_70_8n, zs_70_9, zs_70_9n, zs_70_10, zs_70_10n, zs_70_13, zs_70_24, zs_70_24n, zs_70_25, zs_70_25n, c1, zECc, zrc_1, zf_1_0, zp_1_0, zp_1_0n, zf_1_1, zp_1_1, zf_1_2, zp_1_2, zp_1_2n, zf_1_3, zp_1_3, zp_1_3n, zf_1_4, zp_1_40, zp_1_41, zf_1_5, zp_1_5, zp_1_5n, zf_1_6, zp_1_6, zp_1_6n, zf_1_7, zp_1_7, zp_1_7n, zf_1_8, zp_1_8, zp_1_8n, zf_1_9, zp_1_9, zp_1_9n, zf_1_10, zp_1_10, zp_1_10n, zf_1_11, zp_1_11, zp_1_11n, zf_1_12, zp_1_12, zp_1_12n, zSta_rc s1, e1, zbk_v, zts_s]
end ZDX

/-- what a call of the class leaves -/
def zEnd (h : zH) (m : Nat) (r : zR) (N M : Nat) (o : zO) (w : yW) : Prop := ∃ h', r = some (o, h') ∧ zCls h' m w ∧ zfx m (m + 119) N M h h'
def ycur (w : yW) : yA := w.2.2.2.1
def ykep (w : yW) : yA := w.2.2.2.2.1
def yhis (w : yW) : List yA := w.2.2.2.2.2.1
def ysc (w : yW) (A : yA) : yW := (w.1, w.2.1, w.2.2.1, A, w.2.2.2.2)
def ysk (w : yW) (A : yA) : yW := (w.1, w.2.1, w.2.2.1, w.2.2.2.1, A, w.2.2.2.2.2)
def ysh (w : yW) (H : List yA) : yW := (w.1, w.2.1, w.2.2.1, w.2.2.2.1, w.2.2.2.2.1, H, w.2.2.2.2.2.2)
def ysb (w : yW) (cs : List Int32) : yW := (cs, w.2)
def yse (w : yW) (e : Int32) : yW := (w.1, e, w.2.2)
def ysi (w : yW) (b : Bool) : yW := (w.1, w.2.1, b, w.2.2.2)
/-- the state before a recorded call -/
def yrec (w : yW) : yW := ysh w ((ycur w :: yhis w).take 8)
theorem zCls_cur {h h' : zH} {m : Nat} {w : yW} {S : yS} {A : yA} (hc : zCls h m w) (hf : zfr (m + 3) (m + 7) h h') (hs : zSta h' (m + 3) S) (ha : zAS h' m S A) : zCls h' m (ysc w A) := by
  obtain ⟨c0, c1, _, ⟨T, t1, t2⟩, ⟨H, k1, k2⟩, ⟨pos, ns, p1⟩, c7, c8⟩ := hc
  have hk := zkp_fr (m := m) hf (by omega)
  exact ⟨by rw [hf.2]; exact c0, by rw [hf.1 m (by omega)]; exact c1, ⟨S, hs, ha⟩, ⟨T, zSta_fr t1 hf (by omega), zAS_kp t2 hk⟩, ⟨H, zHis_fr k1 hf (by omega), zHs_kp k2 hk⟩, ⟨pos, ns, zPar_cg p1 (zcg_fr hf (by omega))⟩, zScr_cg c7 (zcg_fr hf (by omega)) (zcg_fr hf (by omega)), zOut_kp c8 hk (zcg_fr hf (by omega))⟩
theorem zCls_kep {h h' : zH} {m : Nat} {w : yW} {S : yS} {A : yA} (hc : zCls h m w) (hf : zfr (m + 7) (m + 11) h h') (hs : zSta h' (m + 7) S) (ha : zAS h' m S A) : zCls h' m (ysk w A) := by
  obtain ⟨c0, c1, ⟨T, t1, t2⟩, _, ⟨H, k1, k2⟩, ⟨pos, ns, p1⟩, c7, c8⟩ := hc
  have hk := zkp_fr (m := m) hf (by omega)
  exact ⟨by rw [hf.2]; exact c0, by rw [hf.1 m (by omega)]; exact c1, ⟨T, zSta_fr t1 hf (by omega), zAS_kp t2 hk⟩, ⟨S, hs, ha⟩, ⟨H, zHis_fr k1 hf (by omega), zHs_kp k2 hk⟩, ⟨pos, ns, zPar_cg p1 (zcg_fr hf (by omega))⟩, zScr_cg c7 (zcg_fr hf (by omega)) (zcg_fr hf (by omega)), zOut_kp c8 hk (zcg_fr hf (by omega))⟩
theorem zCls_his {h h' : zH} {m : Nat} {w : yW} {H : List yS} {HA : List yA} (hc : zCls h m w) (hf : zfr (m + 11) (m + 45) h h') (hs : zHis h' (m + 11) H) (ha : zHs h' m H HA) : zCls h' m (ysh w HA) := by
  obtain ⟨c0, c1, ⟨S, s1, s2⟩, ⟨T, t1, t2⟩, _, ⟨pos, ns, p1⟩, c7, c8⟩ := hc
  have hk := zkp_fr (m := m) hf (by omega)
  exact ⟨by rw [hf.2]; exact c0, by rw [hf.1 m (by omega)]; exact c1, ⟨S, zSta_fr s1 hf (by omega), zAS_kp s2 hk⟩, ⟨T, zSta_fr t1 hf (by omega), zAS_kp t2 hk⟩, ⟨H, hs, ha⟩, ⟨pos, ns, zPar_cg p1 (zcg_fr hf (by omega))⟩, zScr_cg c7 (zcg_fr hf (by omega)) (zcg_fr hf (by omega)), zOut_kp c8 hk (zcg_fr hf (by omega))⟩
theorem zCls_par {h h' : zH} {m pos : Nat} {w : yW} {cs : List Int32} {ns : List yN} (hc : zCls h m w) (hf : zfr (m + 63) (m + 75) h h') (hs : zPar h' (m + 63) cs pos ns) : zCls h' m (ysb w cs) := by
  obtain ⟨c0, c1, ⟨S, s1, s2⟩, ⟨T, t1, t2⟩, ⟨H, k1, k2⟩, _, c7, c8⟩ := hc
  have hk := zkp_fr (m := m) hf (by omega)
  exact ⟨by rw [hf.2]; exact c0, by rw [hf.1 m (by omega)]; exact c1, ⟨S, zSta_fr s1 hf (by omega), zAS_kp s2 hk⟩, ⟨T, zSta_fr t1 hf (by omega), zAS_kp t2 hk⟩, ⟨H, zHis_fr k1 hf (by omega), zHs_kp k2 hk⟩, ⟨pos, ns, hs⟩, zScr_cg c7 (zcg_fr hf (by omega)) (zcg_fr hf (by omega)), zOut_kp c8 hk (zcg_fr hf (by omega))⟩
theorem zCls_ec {h : zH} {m : Nat} {w : yW} {e : Int32} {b : Bool} (hc : zCls h m w) : zCls (zup h m (zECc m e (yb b))) m (ysi (yse w e) b) := by
  have hf : zfr m (m + 1) h (zup h m (zECc m e (yb b))) := zfr_up (Nat.le_refl _) (Nat.lt_succ_self _)
  obtain ⟨c0, c1, ⟨S, s1, s2⟩, ⟨T, t1, t2⟩, ⟨H, k1, k2⟩, ⟨pos, ns, p1⟩, c7, c8⟩ := hc
  have hk := zkp_fr (m := m) hf (by omega)
  exact ⟨c0, zup_at, ⟨S, zSta_fr s1 hf (by omega), zAS_kp s2 hk⟩, ⟨T, zSta_fr t1 hf (by omega), zAS_kp t2 hk⟩, ⟨H, zHis_fr k1 hf (by omega), zHs_kp k2 hk⟩, ⟨pos, ns, zPar_cg p1 (zcg_fr hf (by omega))⟩, zScr_cg c7 (zcg_fr hf (by omega)) (zcg_fr hf (by omega)), zOut_kp c8 hk (zcg_fr hf (by omega))⟩
section ZDY
variable {sv : Nat → Value} {d : Nat} {h : zH} {m : Nat} {w : yW}
theorem zCls_0 (hc : zCls h m w) : h.1 m = zECc m w.2.1 (yb w.2.2.1) := hc.2.1
theorem zthrow (hc : zCls h m w) : zCls (zext h [(0, [])] 6) m w ∧ zfx m (m + 119) 1 6 h (zext h [(0, [])] 6) := ⟨zCls_new hc (fun q hq => zext_lo hq) (by rw [zext_sz]; omega), zfx_new⟩
theorem d_132E (hc : zCls h m w) : ∃ h', zcall zP sv (d + 4) 132 [.ref (m + 11), .ref (m + 3)] h = some (.inl none, h') ∧ zCls h' m (yrec w) ∧ zfr (m + 11) (m + 45) h h' := by
  have hc' := hc
  obtain ⟨c0, c1, ⟨S, s1, s2⟩, _, ⟨H, k1, k2⟩, _⟩ := hc
  have z6 := zK6_of s2
  obtain ⟨h', e, g1, f1⟩ := d_132 (sv := sv) (d := d) k1 s1 (by omega) z6.1 (fun a ha => by have := z6.2 a ha; omega)
  have hk := zkp_fr (m := m) f1 (by omega)
  refine ⟨h', e, zCls_his hc' (zfr_mono f1 (by omega) (by omega)) g1 ⟨?_, fun j S' A' q1 q2 => ?_⟩, zfr_mono f1 (by omega) (by omega)⟩
  · rw [List.length_take, List.length_take, List.length_cons, List.length_cons, k2.1]; rfl
  · have hj : j < 8 := by
      have := (List.getElem?_eq_some_iff.mp q1).1
      rw [List.length_take] at this
      omega
    rw [List.getElem?_take_of_lt hj] at q1 q2
    cases j with
    | zero =>
      injection q1 with q1
      injection q2 with q2
      subst q1 q2
      exact zAS_kp s2 hk
    | succ j => exact zAS_kp (k2.2 j S' A' q1 q2) hk
theorem zfr_fx {lo hi : Nat} {h h' : zH} (hf : zfr lo hi h h') (h1 : m ≤ lo) (h2 : hi ≤ m + 119) : zfx m (m + 119) 0 0 h h' := zfx_fr hf h1 h2
/-- feed -/
def ynr (x : Int32) : Int32 := x.toUInt32.toUInt16.toUInt32.toInt32
theorem ynr_chr {x : Int32} : ychr (ynr x) := by
  unfold ychr ynr
  have h1 : x.toUInt32.toUInt16.toUInt32.toNat < 65536 := by
    rw [UInt16.toNat_toUInt32]
    exact UInt16.toNat_lt _
  obtain ⟨n, hn⟩ : ∃ n, x.toUInt32.toUInt16.toUInt32.toNat = n := ⟨_, rfl⟩
  have e : x.toUInt32.toUInt16.toUInt32.toInt32 = nI n := by
    apply Int32.toBitVec_inj.mp
    show x.toUInt32.toUInt16.toUInt32.toBitVec = BitVec.ofNat 32 n
    rw [← hn, UInt32.toNat, BitVec.ofNat_toNat, BitVec.setWidth_eq]
  rw [e]
  have h2 : (0 : Int32) ≤ nI n := nI_pos' (by omega)
  have h3 : nI n ≤ nI 65535 := nI_le (by omega) (by decide)
  have h4 : (65535 : Int32) = nI 65535 := by decide +kernel
  show (decide (0 ≤ nI n) && decide (nI n ≤ 65535)) = true
  rw [Bool.and_eq_true, h4]
  exact ⟨decide_eq_true h2, decide_eq_true h3⟩
theorem d_139 {q : Nat} {cs : List Int32} {x : Int32} (hi : zInp h q cs) (hl : cs.length < 60) : ∃ h', zcall zP sv (d + 1) 139 [.ref q, .int x] h = some (.inl none, h') ∧ zInp h' q (cs ++ [ynr x]) ∧ zfr q (q + 2) h h' := by
  obtain ⟨h1, ⟨B, h2, h3, h4⟩, h5, h6⟩ := hi
  have g1 : ¬ nI cs.length < 0 := nI_pos (by omega)
  have g2 : nI cs.length < nI 60 := nI_lt hl (by decide)
  have e1 : ∀ K : zC → zR, zaset (21, B.map Value.int) 21 (nI cs.length) (.int x) K = K (21, (B.set cs.length (ynr x)).map Value.int) := fun K => by
    unfold zaset zix
    rw [nI_clamp (by omega), if_pos ⟨rfl, by rw [decide_eq_true (nI_pos (by omega)), decide_eq_true (by rw [List.length_map]; omega)]; rfl⟩, List.map_set]
    rfl
  have hlen : (cs ++ [ynr x]).length = cs.length + 1 := List.length_append
  refine ⟨zup (zup h (q + 1) (21, (B.set cs.length (ynr x)).map Value.int)) q (8, [.ref (q + 1), .int (nI (cs.length + 1))]), ?_, ⟨by rw [zup_at, hlen], ⟨B.set cs.length (ynr x), by rw [zup_ne (by omega), zup_at], by rw [List.length_set, h3], by rw [hlen, ytk_set h4 (by omega)]⟩, by rw [hlen]; omega, fun y hy => ?_⟩, zfr_tr (zfr_up (by omega) (by omega)) (zfr_up (by omega) (by omega))⟩
  · simp only [zc_139, zs_139_0, zs_139_1, zs_139_4, zs_139_7, zs_139_8, zs_139_11, zs_139_12, zs_139_15, zs_139_16, zs_139_19, zs_139_20, zs_139_23, zs_139_24, zs_139_27, zs_139_28, zs_139_29, zs_139_30, zs_139_31, zs_139_34, zs_139_35, zs_139_36, zs_139_39, h1, zrc_8, zf_8_0, zp_8_0, zp_8_0n, zf_8_1, zp_8_1, if_neg g1, h2, zaln_k (show 20 ≤ 21 by decide), List.length_map, h3, if_pos g2, e1, zup_ne (show q ≠ q + 1 by omega), nI_1']
  · rcases List.mem_append.mp hy with g | g
    · exact h6 y g
    · rw [List.mem_singleton.mp g]
      exact ynr_chr
theorem d_24 {x : Int32} (hc : zCls h m w) : zEnd h m (zcall zP sv (d + 3) 24 [.ref m, .int x] h) 1 6 (if w.1.length < 60 then .inl (some (.int (nI (w.1.length + 1)))) else .inr 0) (if w.1.length < 60 then ysb w (w.1 ++ [ynr x]) else w) := by
  have hc' := hc
  have c1 := zCls_0 hc
  obtain ⟨c0, _, _, _, _, ⟨pos, ns, p1⟩, _⟩ := hc
  have p0 := p1.1
  obtain ⟨i1, ⟨B, i2, i3, i4⟩, i5, i6⟩ := p1.2.1
  have hi := p1.2.1
  have e149 : ∀ h', h'.1 (m + 63) = (7, [.ref (m + 63 + 1), .ref (m + 63 + 3), .int (nI pos)]) → zcall zP sv (d + 2) 149 [.ref (m + 63)] h' = some (.inl (some (.ref (m + 63 + 1))), h') := fun h' e => by simp only [zc_149, zs_149_0, zs_149_1, zs_149_4, e, zrc_7, zf_7_0, zp_7_0, zp_7_0n, zf_7_1, zp_7_1, zp_7_1n, zf_7_2, zp_7_2]
  by_cases hl : w.1.length < 60
  · rw [if_pos hl, if_pos hl]
    obtain ⟨h', e2, w2, f2⟩ := d_139 (sv := sv) (d := d + 1) (x := x) hi hl
    have g1 : nI w.1.length < nI 60 := nI_lt hl (by decide)
    have p3 : zPar h' (m + 63) (w.1 ++ [ynr x]) pos ns := ⟨by rw [f2.1 _ (by omega), p0], w2, zTre_fr p1.2.2 f2 (by omega)⟩
    have e3 := d_138 (sv := sv) (d := d + 1) w2
    rw [show (w.1 ++ [ynr x]).length = w.1.length + 1 from List.length_append] at e3
    refine ⟨h', ?_, zCls_par hc' (zfr_mono f2 (by omega) (by omega)) p3, zfx_mono (zfr_fx f2 (by omega) (by omega)) (Nat.le_refl _) (Nat.le_refl _) (Nat.zero_le _) (Nat.zero_le _)⟩
    simp (disch := exact znw_u) only [zc_24, zs_24_0, zs_24_1, zs_24_4, zs_24_7, zs_24_8, zs_24_9, zs_24_12, zs_24_15, zs_24_25, zs_24_26, zs_24_27, zs_24_30, zs_24_31, zs_24_34, c1, zECc, zrc_1, zf_1_0, zp_1_0, zp_1_0n, zf_1_1, zp_1_1, zf_1_2, zp_1_2, zp_1_2n, zf_1_3, zp_1_3, zp_1_3n, zf_1_4, zp_1_40, zp_1_41, zf_1_5, zp_1_5, zp_1_5n, zf_1_6, zp_1_6, zp_1_6n, zf_1_7, zp_1_7, zp_1_7n, zf_1_8, zp_1_8, zp_1_8n, zf_1_9, zp_1_9, zp_1_9n, zf_1_10, zp_1_10, zp_1_10n, zf_1_11, zp_1_11, zp_1_11n, zf_1_12, zp_1_12, zp_1_12n, zrc_8, zf_8_0, zp_8_0, zp_8_0n, zf_8_1, zp_8_1, zPar_rc p1, e149 h p0, zInp_rc hi, zc_137, zs_137_0, zs_137_1, zs_137_4, zs_137_5, zs_137_8, zs_137_9, zs_137_12, zs_137_13, zs_137_16, zs_137_17, i1, i2, zaln_k (show 20 ≤ 21 by decide), List.length_map, i3, if_pos g1, zty_50, zgd_t, e2, zInp_rc w2, e3, zbk_v, zts_s, zts_n, ↓reduceIte]
  · rw [if_neg hl, if_neg hl]
    have g1 : ¬ nI w.1.length < nI 60 := nI_nlt (by omega) (by omega)
    obtain ⟨t1, t2⟩ := zthrow hc'
    refine ⟨_, ?_, t1, t2⟩
    simp (disch := exact znw_u) only [zc_24, zs_24_0, zs_24_1, zs_24_4, zs_24_7, zs_24_8, zs_24_9, zs_24_12, zs_24_15, zs_24_25, zs_24_26, zs_24_27, zs_24_30, zs_24_31, zs_24_34, c1, zECc, zrc_1, zf_1_0, zp_1_0, zp_1_0n, zf_1_1, zp_1_1, zf_1_2, zp_1_2, zp_1_2n, zf_1_3, zp_1_3, zp_1_3n, zf_1_4, zp_1_40, zp_1_41, zf_1_5, zp_1_5, zp_1_5n, zf_1_6, zp_1_6, zp_1_6n, zf_1_7, zp_1_7, zp_1_7n, zf_1_8, zp_1_8, zp_1_8n, zf_1_9, zp_1_9, zp_1_9n, zf_1_10, zp_1_10, zp_1_10n, zf_1_11, zp_1_11, zp_1_11n, zf_1_12, zp_1_12, zp_1_12n, zrc_8, zf_8_0, zp_8_0, zp_8_0n, zf_8_1, zp_8_1, zPar_rc p1, e149 h p0, zInp_rc hi, zc_137, zs_137_0, zs_137_1, zs_137_4, zs_137_5, zs_137_8, zs_137_9, zs_137_12, zs_137_13, zs_137_16, zs_137_17, i1, i2, zaln_k (show 20 ≤ 21 by decide), List.length_map, i3, if_neg g1, zty_51, zgd_t, nI_1e0, zbk_v, zts_s, zts_n, zext_of, ↓reduceIte]
theorem d_25 (hc : zCls h m w) : zEnd h m (zcall zP sv (d + 3) 25 [.ref m] h) 0 0 (.inl (some (.int (nI w.1.length)))) (ysb w []) := by
  have hc' := hc
  have c1 := zCls_0 hc
  obtain ⟨c0, _, _, _, _, ⟨pos, ns, p1⟩, _⟩ := hc
  have p0 := p1.1
  have hi := p1.2.1
  have e149 : ∀ h', h'.1 (m + 63) = (7, [.ref (m + 63 + 1), .ref (m + 63 + 3), .int (nI pos)]) → zcall zP sv (d + 2) 149 [.ref (m + 63)] h' = some (.inl (some (.ref (m + 63 + 1))), h') := fun h' e => by simp only [zc_149, zs_149_0, zs_149_1, zs_149_4, e, zrc_7, zf_7_0, zp_7_0, zp_7_0n, zf_7_1, zp_7_1, zp_7_1n, zf_7_2, zp_7_2]
  have e3 := d_138 (sv := sv) (d := d + 1) hi
  obtain ⟨h', e2, w2, f2⟩ := d_140 (sv := sv) (d := d + 1) hi
  have p3 : zPar h' (m + 63) [] pos ns := ⟨by rw [f2.1 _ (by omega), p0], w2, zTre_fr p1.2.2 f2 (by omega)⟩
  refine ⟨h', ?_, zCls_par hc' (zfr_mono f2 (by omega) (by omega)) p3, zfr_fx f2 (by omega) (by omega)⟩
  simp (disch := exact znw_u) only [zc_25, zs_25_0, zs_25_1, zs_25_4, zs_25_7, zs_25_10, zs_25_11, zs_25_12, zs_25_15, zs_25_18, zs_25_21, zs_25_22, c1, zECc, zrc_1, zf_1_0, zp_1_0, zp_1_0n, zf_1_1, zp_1_1, zf_1_2, zp_1_2, zp_1_2n, zf_1_3, zp_1_3, zp_1_3n, zf_1_4, zp_1_40, zp_1_41, zf_1_5, zp_1_5, zp_1_5n, zf_1_6, zp_1_6, zp_1_6n, zf_1_7, zp_1_7, zp_1_7n, zf_1_8, zp_1_8, zp_1_8n, zf_1_9, zp_1_9, zp_1_9n, zf_1_10, zp_1_10, zp_1_10n, zf_1_11, zp_1_11, zp_1_11n, zf_1_12, zp_1_12, zp_1_12n, zPar_rc p1, e149 h p0, zInp_rc hi, e3, e2, zbk_v, zts_s, zts_n]
end ZDY

theorem yl1 {c : Int32} (h : ylet c = false) : c < nI 97 ∨ (¬ c < nI 97 ∧ nI 102 < c) := by
  by_cases h1 : c < nI 97
  · exact Or.inl h1
  · exact Or.inr ⟨h1, (ylet_f h).resolve_left h1⟩
section ZDZ
variable {sv : Nat → Value} {d : Nat} {h : zH} {m : Nat} {w : yW}
theorem d_72 {c : Int32} (hl : ylet c = true) : zcall zP sv (d + 1) 72 [.int c] h = some (.inl none, h) := by
  have g := ylet_r hl
  simp only [zc_72, zs_72_0, zs_72_1, zs_72_3, zs_72_6, zs_72_7, zs_72_9, zs_72_12, zs_72_23, if_neg g.1, if_neg g.2]
theorem d_72n {c : Int32} (hl : ylet c = false) : zcall zP sv (d + 1) 72 [.int c] h = some (.inr 1, zext h [(0, [])] 6) := by
  rcases yl1 hl with g | g
  · simp only [zc_72, zs_72_0, zs_72_1, zs_72_3, zs_72_6, zs_72_7, zs_72_9, zs_72_12, zs_72_23, if_pos g, zext_of]
  · simp only [zc_72, zs_72_0, zs_72_1, zs_72_3, zs_72_6, zs_72_7, zs_72_9, zs_72_12, zs_72_23, if_neg g.1, if_pos g.2, zext_of]
theorem d_178 {s : Nat} {S : yS} {c x : Int32} (hs : zSta h s S) : ∃ h', zcall zP sv (d + 2) 178 [.ref s, .int c, .int x] h = some (.inl (some (.int (yg S.2.1 (c - nI 97)))), h') ∧ zSta h' s (S.1, ys S.2.1 (c - nI 97) x, S.2.2) ∧ zfr s (s + 4) h h' := by
  obtain ⟨h1, ⟨F, h2, h3⟩, h4, h5, h6⟩ := hs
  have e1 := d_166 (sv := sv) (d := d) (x := c - nI 97) (y := x) h4
  refine ⟨_, ?_, ⟨by rw [zup_ne (by omega)]; exact h1, ⟨F, by rw [zup_ne (by omega)]; exact h2, h3⟩, zRow_new h4 ys_len, by rw [← h5]; exact ys_len, h6⟩, zfr_up (by omega) (by omega)⟩
  simp (disch := exact znw_u) only [zc_178, zs_178_0, zs_178_0n, zs_178_1, zs_178_4, zs_178_5, zs_178_7, zs_178_8, zs_178_11, zs_178_12, zs_178_12n, zs_178_13, zs_178_16, zs_178_17, zs_178_19, zs_178_20, zs_178_21, zs_178_24, zs_178_25, h1, zrc_3, zf_3_0, zp_3_0, zp_3_0n, zf_3_1, zp_3_1, zf_3_2, zp_3_2, zp_3_2n, zf_3_3, zp_3_3, zf_3_4, zp_3_4, zRow_rc h4, d_165 h4, e1, zbk_v, zts_s, zts_n]
theorem d_179 {s : Nat} {S : yS} {x : Int32} (hs : zSta h s S) : ∃ h', zcall zP sv (d + 1) 179 [.ref s, .int x] h = some (.inl (some (.int S.2.2.1)), h') ∧ zSta h' s (S.1, S.2.1, x, S.2.2.2) ∧ zfr s (s + 4) h h' := by
  obtain ⟨h1, ⟨F, h2, h3⟩, h4, h5, h6⟩ := hs
  refine ⟨zup h s (3, [.ref (s + 1), .int (nI S.1.length), .ref (s + 2), .int x, .int S.2.2.2]), ?_, ⟨zup_at, ⟨F, by rw [zup_ne (by omega)]; exact h2, h3⟩, zRow_up h4 (by omega) (by omega), h5, h6⟩, zfr_up (by omega) (by omega)⟩
  simp (disch := exact znw_u) only [zc_179, zs_179_0, zs_179_0n, zs_179_1, zs_179_4, zs_179_5, zs_179_5n, zs_179_6, zs_179_7, zs_179_10, zs_179_11, h1, zrc_3, zf_3_0, zp_3_0, zp_3_0n, zf_3_1, zp_3_1, zf_3_2, zp_3_2, zp_3_2n, zf_3_3, zp_3_3, zf_3_4, zp_3_4]
theorem d_177 {s : Nat} {S : yS} {x : Int32} (hs : zSta h s S) : ∃ h', zcall zP sv (d + 1) 177 [.ref s, .int x] h = some (.inl none, h') ∧ zSta h' s (S.1, S.2.1, S.2.2.1, S.2.2.2 + x) ∧ zfr s (s + 4) h h' := by
  obtain ⟨h1, ⟨F, h2, h3⟩, h4, h5, h6⟩ := hs
  refine ⟨zup h s (3, [.ref (s + 1), .int (nI S.1.length), .ref (s + 2), .int S.2.2.1, .int (S.2.2.2 + x)]), ?_, ⟨zup_at, ⟨F, by rw [zup_ne (by omega)]; exact h2, h3⟩, zRow_up h4 (by omega) (by omega), h5, h6⟩, zfr_up (by omega) (by omega)⟩
  simp (disch := exact znw_u) only [zc_177, zs_177_0, zs_177_0n, zs_177_1, zs_177_2, zs_177_5, zs_177_6, zs_177_7, zs_177_10, h1, zrc_3, zf_3_0, zp_3_0, zp_3_0n, zf_3_1, zp_3_1, zf_3_2, zp_3_2, zp_3_2n, zf_3_3, zp_3_3, zf_3_4, zp_3_4]
theorem d_31n {c x : Int32} (hc : zCls h m w) (hb : ylet c = false ∨ x < -999 ∨ nI 999 < x) : zEnd h m (zcall zP sv (d + 6) 31 [.ref m, .int c, .int x] h) 1 6 (.inr 1) w := by
  obtain ⟨t1, t2⟩ := zthrow hc
  refine ⟨_, ?_, t1, t2⟩
  cases hl : ylet c with
  | false => simp (disch := exact znw_u) only [zc_31, zs_31_0, zs_31_1, zs_31_4, zs_31_5, zs_31_8, zs_31_11, zs_31_12, zs_31_15, zs_31_18, zs_31_28, zs_31_29, zs_31_32, zs_31_33, zs_31_36, zs_31_39, zs_31_40, zs_31_43, zs_31_44, zs_31_45, zs_31_48, d_72n hl, zbk_x]
  | true =>
    rw [hl] at hb
    rcases hb with g | g | g
    · cases g
    · simp (disch := exact znw_u) only [zc_31, zs_31_0, zs_31_1, zs_31_4, zs_31_5, zs_31_8, zs_31_11, zs_31_12, zs_31_15, zs_31_18, zs_31_28, zs_31_29, zs_31_32, zs_31_33, zs_31_36, zs_31_39, zs_31_40, zs_31_43, zs_31_44, zs_31_45, zs_31_48, d_72 hl, zbk_v, zts_n, if_pos g, zext_of]
    · by_cases g2 : x < -999
      · simp (disch := exact znw_u) only [zc_31, zs_31_0, zs_31_1, zs_31_4, zs_31_5, zs_31_8, zs_31_11, zs_31_12, zs_31_15, zs_31_18, zs_31_28, zs_31_29, zs_31_32, zs_31_33, zs_31_36, zs_31_39, zs_31_40, zs_31_43, zs_31_44, zs_31_45, zs_31_48, d_72 hl, zbk_v, zts_n, if_pos g2, zext_of]
      · simp (disch := exact znw_u) only [zc_31, zs_31_0, zs_31_1, zs_31_4, zs_31_5, zs_31_8, zs_31_11, zs_31_12, zs_31_15, zs_31_18, zs_31_28, zs_31_29, zs_31_32, zs_31_33, zs_31_36, zs_31_39, zs_31_40, zs_31_43, zs_31_44, zs_31_45, zs_31_48, d_72 hl, zbk_v, zts_n, if_neg g2, if_pos g, zext_of]
theorem d_31 {c x : Int32} (hc : zCls h m w) (h1 : ylet c = true) (h2 : ¬ x < -999) (h3 : ¬ nI 999 < x) : zEnd h m (zcall zP sv (d + 6) 31 [.ref m, .int c, .int x] h) 0 0 (.inl (some (.int (yg (ycur w).2.1 (c - nI 97))))) (ysc (yrec w) ((ycur w).1, ys (ycur w).2.1 (c - nI 97) x, (ycur w).2.2)) := by
  have q1 := zCls_0 hc
  have q3 : ∀ X, zrc (h.1 (m + 11)) 5 X = X := fun X => by
    obtain ⟨_, _, _, _, ⟨H, k1, _⟩, _⟩ := hc
    exact zHis_rc k1
  obtain ⟨h1', e1, w1, f1⟩ := d_132E (sv := sv) (d := d + 1) hc
  obtain ⟨S, s1, s2⟩ := w1.2.2.1
  obtain ⟨h2', e2, w2, f2⟩ := d_178 (sv := sv) (d := d + 3) (c := c) (x := x) s1
  have a2 : zAS h2' m (S.1, ys S.2.1 (c - nI 97) x, S.2.2) ((ycur w).1, ys (ycur w).2.1 (c - nI 97) x, (ycur w).2.2) := by
    have hk := zkp_fr (m := m) f2 (by omega)
    obtain ⟨b1, b2, b3⟩ := s2
    have b4 : S.2 = (ycur w).2 := b1
    exact ⟨by rw [b4], zFs_kp b2 hk, b3.1, b3.2.1, ys_len.trans b3.2.2⟩
  refine ⟨h2', ?_, zCls_cur w1 f2 w2 a2, zfx_mono (zfx_tr (zfr_fx f1 (by omega) (by omega)) (zfr_fx f2 (by omega) (by omega))) (Nat.le_refl _) (Nat.le_refl _) (Nat.le_refl _) (Nat.le_refl _)⟩
  have q2 := zCls_0 w1
  have q4 : S.2.1 = (ycur w).2.1 := by
    have : S.2 = (ycur w).2 := s2.1
    rw [this]
  rw [q4] at e2
  simp (disch := exact znw_u) only [zc_31, zs_31_0, zs_31_1, zs_31_4, zs_31_5, zs_31_8, zs_31_11, zs_31_12, zs_31_15, zs_31_18, zs_31_28, zs_31_29, zs_31_32, zs_31_33, zs_31_36, zs_31_39, zs_31_40, zs_31_43, zs_31_44, zs_31_45, zs_31_48, d_72 h1, if_neg h2, if_neg h3, q1, q2, zECc, zrc_1, zf_1_0, zp_1_0, zp_1_0n, zf_1_1, zp_1_1, zf_1_2, zp_1_2, zp_1_2n, zf_1_3, zp_1_3, zp_1_3n, zf_1_4, zp_1_40, zp_1_41, zf_1_5, zp_1_5, zp_1_5n, zf_1_6, zp_1_6, zp_1_6n, zf_1_7, zp_1_7, zp_1_7n, zf_1_8, zp_1_8, zp_1_8n, zf_1_9, zp_1_9, zp_1_9n, zf_1_10, zp_1_10, zp_1_10n, zf_1_11, zp_1_11, zp_1_11n, zf_1_12, zp_1_12, zp_1_12n, q3, e1, zSta_rc s1, e2, zbk_v, zts_s, zts_n]
theorem d_32n {x : Int32} (hc : zCls h m w) (hb : x < nI 1 ∨ nI 4 < x) : zEnd h m (zcall zP sv (d + 6) 32 [.ref m, .int x] h) 1 6 (.inr 1) w := by
  obtain ⟨t1, t2⟩ := zthrow hc
  refine ⟨_, ?_, t1, t2⟩
  by_cases g2 : x < nI 1
  · simp (disch := exact znw_u) only [zc_32, zs_32_0, zs_32_1, zs_32_2, zs_32_5, zs_32_6, zs_32_7, zs_32_10, zs_32_20, zs_32_21, zs_32_24, zs_32_25, zs_32_28, zs_32_31, zs_32_32, zs_32_35, zs_32_36, zs_32_39, if_pos g2, zext_of]
  · simp (disch := exact znw_u) only [zc_32, zs_32_0, zs_32_1, zs_32_2, zs_32_5, zs_32_6, zs_32_7, zs_32_10, zs_32_20, zs_32_21, zs_32_24, zs_32_25, zs_32_28, zs_32_31, zs_32_32, zs_32_35, zs_32_36, zs_32_39, if_neg g2, if_pos (hb.resolve_left g2), zext_of]
theorem d_32 {x : Int32} (hc : zCls h m w) (h2 : ¬ x < nI 1) (h3 : ¬ nI 4 < x) : zEnd h m (zcall zP sv (d + 6) 32 [.ref m, .int x] h) 0 0 (.inl (some (.int (ycur w).2.2.1))) (ysc (yrec w) ((ycur w).1, (ycur w).2.1, x, (ycur w).2.2.2)) := by
  have q1 := zCls_0 hc
  have q3 : ∀ X, zrc (h.1 (m + 11)) 5 X = X := fun X => by
    obtain ⟨_, _, _, _, ⟨H, k1, _⟩, _⟩ := hc
    exact zHis_rc k1
  obtain ⟨h1', e1, w1, f1⟩ := d_132E (sv := sv) (d := d + 1) hc
  obtain ⟨S, s1, s2⟩ := w1.2.2.1
  obtain ⟨h2', e2, w2, f2⟩ := d_179 (sv := sv) (d := d + 4) (x := x) s1
  have q4 : S.2 = (ycur w).2 := s2.1
  have a2 : zAS h2' m (S.1, S.2.1, x, S.2.2.2) ((ycur w).1, (ycur w).2.1, x, (ycur w).2.2.2) := by
    have hk := zkp_fr (m := m) f2 (by omega)
    obtain ⟨b1, b2, b3⟩ := s2
    exact ⟨by rw [q4], zFs_kp b2 hk, b3.1, b3.2.1, b3.2.2⟩
  refine ⟨h2', ?_, zCls_cur w1 f2 w2 a2, zfx_mono (zfx_tr (zfr_fx f1 (by omega) (by omega)) (zfr_fx f2 (by omega) (by omega))) (Nat.le_refl _) (Nat.le_refl _) (Nat.le_refl _) (Nat.le_refl _)⟩
  have q2 := zCls_0 w1
  rw [show S.2.2.1 = (ycur w).2.2.1 by rw [q4]] at e2
  simp (disch := exact znw_u) only [zc_32, zs_32_0, zs_32_1, zs_32_2, zs_32_5, zs_32_6, zs_32_7, zs_32_10, zs_32_20, zs_32_21, zs_32_24, zs_32_25, zs_32_28, zs_32_31, zs_32_32, zs_32_35, zs_32_36, zs_32_39, if_neg h2, if_neg h3, q1, q2, zECc, zrc_1, zf_1_0, zp_1_0, zp_1_0n, zf_1_1, zp_1_1, zf_1_2, zp_1_2, zp_1_2n, zf_1_3, zp_1_3, zp_1_3n, zf_1_4, zp_1_40, zp_1_41, zf_1_5, zp_1_5, zp_1_5n, zf_1_6, zp_1_6, zp_1_6n, zf_1_7, zp_1_7, zp_1_7n, zf_1_8, zp_1_8, zp_1_8n, zf_1_9, zp_1_9, zp_1_9n, zf_1_10, zp_1_10, zp_1_10n, zf_1_11, zp_1_11, zp_1_11n, zf_1_12, zp_1_12, zp_1_12n, q3, e1, zSta_rc s1, e2, zbk_v, zts_s, zts_n]
theorem d_27n {x : Int32} (hc : zCls h m w) (hx : x < 0 ∨ ¬ x < nI (ycur w).1.length) : zEnd h m (zcall zP sv (d + 6) 27 [.ref m, .int x] h) 1 6 (.inr 2) w := by
  obtain ⟨t1, t2⟩ := zthrow hc
  refine ⟨_, ?_, t1, t2⟩
  have q1 := zCls_0 hc
  have e1 := d_70n (sv := sv) (d := d + 3) hc hx
  have q5 : ∀ X : zR, zrc (h.1 m) 1 X = X := fun X => by rw [q1]; exact zrc_k
  simp (disch := exact znw_u) only [zc_27, zs_27_0, zs_27_1, zs_27_2, zs_27_5, zs_27_6, zs_27_7, zs_27_10, zs_27_11, zs_27_14, zs_27_17, zs_27_18, zs_27_21, zs_27_22, zs_27_25, zs_27_26, zs_27_29, zs_27_32, q5, e1, zbk_x]
theorem d_27 {i : Nat} (hc : zCls h m w) (hi : i < (ycur w).1.length) : zEnd h m (zcall zP sv (d + 6) 27 [.ref m, .int (nI i)] h) 0 0 (.inl (some (.int (nI ((ycur w).1.length - 1))))) (ysc (yrec w) ((ycur w).1.eraseIdx i, (ycur w).2)) := by
  have q1 := zCls_0 hc
  have q5 : ∀ X : zR, zrc (h.1 m) 1 X = X := fun X => by rw [q1]; exact zrc_k
  obtain ⟨a, e0, _⟩ := d_70k (sv := sv) (d := d + 3) (t := (ycur w).1[i]) hc (List.getElem?_eq_getElem hi)
  have q3 : ∀ X, zrc (h.1 (m + 11)) 5 X = X := fun X => by
    obtain ⟨_, _, _, _, ⟨H, k1, _⟩, _⟩ := hc
    exact zHis_rc k1
  obtain ⟨h1', e1, w1, f1⟩ := d_132E (sv := sv) (d := d + 1) hc
  obtain ⟨S, s1, s2⟩ := w1.2.2.1
  have hl : S.1.length = (ycur w).1.length := s2.2.1.1
  have z6 := zK6_of s2
  obtain ⟨h2', e2, w2, f2⟩ := d_176 (sv := sv) (d := d + 3) (i := i) s1 (by omega) z6.1 (fun a ha => by have := z6.2 a ha; omega)
  have hle : (S.1.eraseIdx i).length = (ycur w).1.length - 1 := by rw [List.length_eraseIdx, if_pos (by omega), hl]
  have a2 : zAS h2' m (S.1.eraseIdx i, S.2) ((ycur w).1.eraseIdx i, (ycur w).2) := by
    have hk := zkp_fr (m := m) f2 (by omega)
    obtain ⟨b1, b2, b3⟩ := s2
    have b4 := zFs_kp b2 hk
    refine ⟨b1, ⟨by rw [hle, List.length_eraseIdx, if_pos hi], fun j a t h1 h2 => ?_⟩, ?_, fun t ht => b3.2.1 t (List.mem_of_mem_eraseIdx ht), b3.2.2⟩
    · rw [List.getElem?_eraseIdx] at h1 h2
      by_cases hj : j < i
      · rw [if_pos hj] at h1 h2
        exact b4.2 j a t h1 h2
      · rw [if_neg hj] at h1 h2
        exact b4.2 (j + 1) a t h1 h2
    · have := b3.1
      have e9 : ((ycur w).1.eraseIdx i).length = (ycur w).1.length - 1 := by rw [List.length_eraseIdx, if_pos hi]
      show ((ycur w).1.eraseIdx i).length ≤ 6
      have h10 : (ycur w).1.length ≤ 6 := b3.1
      omega
  refine ⟨h2', ?_, zCls_cur w1 f2 w2 a2, zfx_mono (zfx_tr (zfr_fx f1 (by omega) (by omega)) (zfr_fx f2 (by omega) (by omega))) (Nat.le_refl _) (Nat.le_refl _) (Nat.le_refl _) (Nat.le_refl _)⟩
  have q2 := zCls_0 w1
  have q6 : h2'.1 m = zECc m w.2.1 (yb w.2.2.1) := by rw [f2.1 m (by omega)]; exact q2
  have e3 : zcall zP sv (d + 5) 169 [.ref (m + 3)] h2' = some (.inl (some (.int (nI ((ycur w).1.length - 1)))), h2') := by
    rw [zc_169, zs_169_0, zs_169_1, w2.1, zf_3_1, zs_169_4, hle]
  simp (disch := exact znw_u) only [zc_27, zs_27_0, zs_27_1, zs_27_2, zs_27_5, zs_27_6, zs_27_7, zs_27_10, zs_27_11, zs_27_14, zs_27_17, zs_27_18, zs_27_21, zs_27_22, zs_27_25, zs_27_26, zs_27_29, zs_27_32, q5, e0, q1, q2, q6, zECc, zrc_1, zf_1_0, zp_1_0, zp_1_0n, zf_1_1, zp_1_1, zf_1_2, zp_1_2, zp_1_2n, zf_1_3, zp_1_3, zp_1_3n, zf_1_4, zp_1_40, zp_1_41, zf_1_5, zp_1_5, zp_1_5n, zf_1_6, zp_1_6, zp_1_6n, zf_1_7, zp_1_7, zp_1_7n, zf_1_8, zp_1_8, zp_1_8n, zf_1_9, zp_1_9, zp_1_9n, zf_1_10, zp_1_10, zp_1_10n, zf_1_11, zp_1_11, zp_1_11n, zf_1_12, zp_1_12, zp_1_12n, q3, e1, zSta_rc s1, zSta_rc w2, e2, e3, zbk_v, zts_s, zts_n]
theorem d_68 (hc : zCls h m w) : zEnd h m (zcall zP sv (d + 6) 68 [.ref m] h) 0 0 (.inl (some (.int (nI (ycur w).1.length)))) (ysi (ysk w (ycur w)) true) := by
  have q1 := zCls_0 hc
  have hc' := hc
  obtain ⟨c0, c1, ⟨S, s1, s2⟩, ⟨T, t1, t2⟩, _⟩ := hc
  have z6 := zK6_of s2
  obtain ⟨h1, e1, w1, f1⟩ := d_180 (sv := sv) (d := d + 2) t1 s1 (by omega) z6.1 (fun a ha => by have := z6.2 a ha; omega)
  have k1 := zCls_kep hc' f1 w1 (zAS_kp s2 (zkp_fr (m := m) f1 (by omega)))
  have q2 := zCls_0 k1
  have k2 := zCls_ec (e := w.2.1) (b := true) k1
  have s3 := zSta_fr (zSta_fr s1 f1 (by omega)) (zfr_up (lo := m) (hi := m + 1) (a := m) (c := zECc m w.2.1 (yb true)) (by omega) (by omega)) (by omega)
  refine ⟨_, ?_, k2, zfx_mono (zfx_tr (zfr_fx f1 (by omega) (by omega)) (zfr_fx (zfr_up (lo := m) (hi := m + 1) (by omega) (by omega)) (by omega) (by omega))) (Nat.le_refl _) (Nat.le_refl _) (Nat.le_refl _) (Nat.le_refl _)⟩
  have hl : S.1.length = (ycur w).1.length := s2.2.1.1
  have q3 : h1.1 m = zECc m w.2.1 (yb w.2.2.1) := q2
  have e3 : zcall zP sv (d + 5) 169 [.ref (m + 3)] (zup h1 m (zECc m w.2.1 (yb true))) = some (.inl (some (.int (nI (ycur w).1.length))), zup h1 m (zECc m w.2.1 (yb true))) := by
    rw [zc_169, zs_169_0, zs_169_1, s3.1, zf_3_1, zs_169_4, hl]
  rw [yb_t, zECc] at e3
  rw [yb_t, zECc] at s3
  simp (disch := exact znw_u) only [zc_68, zs_68_0, zs_68_1, zs_68_4, zs_68_5, zs_68_8, zs_68_11, zs_68_12, zs_68_13, zs_68_16, zs_68_17, zs_68_20, zs_68_23, c1, q3, zECc, zrc_1, zf_1_0, zp_1_0, zp_1_0n, zf_1_1, zp_1_1, zf_1_2, zp_1_2, zp_1_2n, zf_1_3, zp_1_3, zp_1_3n, zf_1_4, zp_1_40, zp_1_41, zf_1_5, zp_1_5, zp_1_5n, zf_1_6, zp_1_6, zp_1_6n, zf_1_7, zp_1_7, zp_1_7n, zf_1_8, zp_1_8, zp_1_8n, zf_1_9, zp_1_9, zp_1_9n, zf_1_10, zp_1_10, zp_1_10n, zf_1_11, zp_1_11, zp_1_11n, zf_1_12, zp_1_12, zp_1_12n, zSta_rc t1, e1, zup_at, zSta_rc s3, e3, yb_t, zbk_v, zts_s, zts_n]
theorem d_69n (hc : zCls h m w) (hk : w.2.2.1 = false) : zEnd h m (zcall zP sv (d + 6) 69 [.ref m] h) 1 6 (.inr 0) w := by
  obtain ⟨t1, t2⟩ := zthrow hc
  have q1 := zCls_0 hc
  rw [hk, yb_f] at q1
  refine ⟨_, ?_, t1, t2⟩
  simp (disch := exact znw_u) only [zc_69, zs_69_0, zs_69_1, zs_69_4, zs_69_7, zs_69_18, zs_69_19, zs_69_22, zs_69_23, zs_69_26, zs_69_29, zs_69_30, zs_69_33, zs_69_36, zs_69_37, zs_69_40, zs_69_43, q1, zECc, zrc_1, zf_1_0, zp_1_0, zp_1_0n, zf_1_1, zp_1_1, zf_1_2, zp_1_2, zp_1_2n, zf_1_3, zp_1_3, zp_1_3n, zf_1_4, zp_1_40, zp_1_41, zf_1_5, zp_1_5, zp_1_5n, zf_1_6, zp_1_6, zp_1_6n, zf_1_7, zp_1_7, zp_1_7n, zf_1_8, zp_1_8, zp_1_8n, zf_1_9, zp_1_9, zp_1_9n, zf_1_10, zp_1_10, zp_1_10n, zf_1_11, zp_1_11, zp_1_11n, zf_1_12, zp_1_12, zp_1_12n, zext_of, ↓reduceIte]
theorem d_69 (hc : zCls h m w) (hk : w.2.2.1 = true) : zEnd h m (zcall zP sv (d + 6) 69 [.ref m] h) 0 0 (.inl (some (.int (nI (ykep w).1.length)))) (ysh (ysc w (ykep w)) []) := by
  have q1 := zCls_0 hc
  have hc' := hc
  rw [hk, yb_t] at q1
  obtain ⟨c0, c1, ⟨S, s1, s2⟩, ⟨T, t1, t2⟩, ⟨H, g1, g2⟩, _⟩ := hc
  have z6 := zK6_of t2
  obtain ⟨h1, e1, w1, f1⟩ := d_180 (sv := sv) (d := d + 2) s1 t1 (by omega) z6.1 (fun a ha => by have := z6.2 a ha; omega)
  have k1 := zCls_cur hc' f1 w1 (zAS_kp t2 (zkp_fr (m := m) f1 (by omega)))
  have g3 := zHis_fr g1 f1 (by omega)
  obtain ⟨h2, e2, w2, f2⟩ := d_134 (sv := sv) (d := d + 4) g3
  have k2 := zCls_his (HA := []) k1 (zfr_mono f2 (by omega) (by omega)) w2 ⟨rfl, fun j S A h1 => by rw [List.getElem?_nil] at h1; cases h1⟩
  have s3 := zSta_fr w1 f2 (by omega)
  have q2 : h1.1 m = zECc m w.2.1 (nI 1) := by rw [f1.1 m (by omega), q1]
  have q3 : h2.1 m = zECc m w.2.1 (nI 1) := by rw [f2.1 m (by omega), q2]
  have hl : T.1.length = (ykep w).1.length := t2.2.1.1
  have e3 : zcall zP sv (d + 5) 169 [.ref (m + 3)] h2 = some (.inl (some (.int (nI (ykep w).1.length))), h2) := by
    rw [zc_169, zs_169_0, zs_169_1, s3.1, zf_3_1, zs_169_4, hl]
  refine ⟨h2, ?_, k2, zfx_mono (zfx_tr (zfr_fx f1 (by omega) (by omega)) (zfr_fx f2 (by omega) (by omega))) (Nat.le_refl _) (Nat.le_refl _) (Nat.le_refl _) (Nat.le_refl _)⟩
  simp (disch := exact znw_u) only [zc_69, zs_69_0, zs_69_1, zs_69_4, zs_69_7, zs_69_18, zs_69_19, zs_69_22, zs_69_23, zs_69_26, zs_69_29, zs_69_30, zs_69_33, zs_69_36, zs_69_37, zs_69_40, zs_69_43, q1, q2, q3, zECc, zrc_1, zf_1_0, zp_1_0, zp_1_0n, zf_1_1, zp_1_1, zf_1_2, zp_1_2, zp_1_2n, zf_1_3, zp_1_3, zp_1_3n, zf_1_4, zp_1_40, zp_1_41, zf_1_5, zp_1_5, zp_1_5n, zf_1_6, zp_1_6, zp_1_6n, zf_1_7, zp_1_7, zp_1_7n, zf_1_8, zp_1_8, zp_1_8n, zf_1_9, zp_1_9, zp_1_9n, zf_1_10, zp_1_10, zp_1_10n, zf_1_11, zp_1_11, zp_1_11n, zf_1_12, zp_1_12, zp_1_12n, nI_1e0, zSta_rc s1, e1, zHis_rc g3, e2, zSta_rc s3, e3, zbk_v, zts_s, zts_n, ↓reduceIte]
theorem d_67n (hc : zCls h m w) (hk : yhis w = []) : zEnd h m (zcall zP sv (d + 6) 67 [.ref m] h) 1 6 (.inr 0) w := by
  obtain ⟨t1, t2⟩ := zthrow hc
  have q1 := zCls_0 hc
  obtain ⟨_, _, _, _, ⟨H, g1, g2⟩, _⟩ := hc
  have e1 := d_131 (sv := sv) (d := d + 4) g1
  have hl : H.length = (yhis w).length := g2.1
  rw [hl, hk, List.length_nil, nI_0] at e1
  refine ⟨_, ?_, t1, t2⟩
  simp (disch := exact znw_u) only [zc_67, zs_67_0, zs_67_1, zs_67_4, zs_67_7, zs_67_10, zs_67_21, zs_67_22, zs_67_25, zs_67_26, zs_67_29, zs_67_32, zs_67_33, zs_67_36, zs_67_39, q1, zECc, zrc_1, zf_1_0, zp_1_0, zp_1_0n, zf_1_1, zp_1_1, zf_1_2, zp_1_2, zp_1_2n, zf_1_3, zp_1_3, zp_1_3n, zf_1_4, zp_1_40, zp_1_41, zf_1_5, zp_1_5, zp_1_5n, zf_1_6, zp_1_6, zp_1_6n, zf_1_7, zp_1_7, zp_1_7n, zf_1_8, zp_1_8, zp_1_8n, zf_1_9, zp_1_9, zp_1_9n, zf_1_10, zp_1_10, zp_1_10n, zf_1_11, zp_1_11, zp_1_11n, zf_1_12, zp_1_12, zp_1_12n, zHis_rc g1, e1, zbk_v, zts_s, zext_of, ↓reduceIte]
theorem d_67 {A : yA} {HA : List yA} (hc : zCls h m w) (hk : yhis w = A :: HA) : zEnd h m (zcall zP sv (d + 6) 67 [.ref m] h) 0 0 (.inl (some (.int (nI HA.length)))) (ysh (ysc w A) HA) := by
  have q1 := zCls_0 hc
  have hc' := hc
  obtain ⟨c0, c1, ⟨R, s1, s2⟩, ⟨T, t1, t2⟩, ⟨H, g1, g2⟩, ⟨pos, ns, p1⟩, c7, c8⟩ := hc
  have hg2 : zHs h m H (A :: HA) := by
    have : zHs h m H (yhis w) := g2
    rw [hk] at this
    exact this
  cases H with
  | nil => exact absurd hg2.1 (by rw [List.length_nil, List.length_cons]; omega)
  | cons S H =>
    have hA : zAS h m S A := hg2.2 0 S A rfl rfl
    have hHA : zHs h m H HA := ⟨by have := hg2.1; rw [List.length_cons, List.length_cons] at this; omega, fun j S' A' h1 h2 => hg2.2 (j + 1) S' A' (by rw [List.getElem?_cons_succ]; exact h1) (by rw [List.getElem?_cons_succ]; exact h2)⟩
    have z6 := zK6_of hA
    have e1 := d_131 (sv := sv) (d := d + 4) g1
    obtain ⟨h1, e2, w1, w2, f1, f2⟩ := d_133 (sv := sv) (d := d + 1) g1 s1 (by omega) z6.1 (fun a ha => by have := z6.2 a ha; omega) (fun a ha => by have := z6.2 a ha; omega)
    have ff : zfr (m + 3) (m + 45) h h1 := ⟨fun q hq => f1 q (by omega) (by omega), f2⟩
    have hk1 := zkp_fr (m := m) ff (by omega)
    have e3 := d_131 (sv := sv) (d := d + 4) w1
    have hl : H.length = HA.length := hHA.1
    have tt := zSta_cg t1 (fun q a b => f1 q (by omega) (by omega))
    refine ⟨h1, ?_, ⟨by rw [f2]; exact c0, by rw [ff.1 m (by omega)]; exact c1, ⟨S, w2, zAS_kp hA hk1⟩, ⟨T, tt, zAS_kp t2 hk1⟩, ⟨H, w1, zHs_kp hHA hk1⟩, ⟨pos, ns, zPar_cg p1 (zcg_fr ff (by omega))⟩, zScr_cg c7 (zcg_fr ff (by omega)) (zcg_fr ff (by omega)), zOut_kp c8 hk1 (zcg_fr ff (by omega))⟩, zfx_mono (zfr_fx ff (by omega) (by omega)) (Nat.le_refl _) (Nat.le_refl _) (Nat.le_refl _) (Nat.le_refl _)⟩
    have g9 : ¬ nI (S :: H).length = 0 := nI_ne0 (by rw [List.length_cons]; omega) (by have := hg2.1; obtain ⟨nx, _, _, _, _, _, p5⟩ := g1; omega)
    have q2 : h1.1 m = zECc m w.2.1 (yb w.2.2.1) := by rw [ff.1 m (by omega), q1]
    rw [hl] at e3
    simp (disch := exact znw_u) only [zc_67, zs_67_0, zs_67_1, zs_67_4, zs_67_7, zs_67_10, zs_67_21, zs_67_22, zs_67_25, zs_67_26, zs_67_29, zs_67_32, zs_67_33, zs_67_36, zs_67_39, q1, q2, zECc, zrc_1, zf_1_0, zp_1_0, zp_1_0n, zf_1_1, zp_1_1, zf_1_2, zp_1_2, zp_1_2n, zf_1_3, zp_1_3, zp_1_3n, zf_1_4, zp_1_40, zp_1_41, zf_1_5, zp_1_5, zp_1_5n, zf_1_6, zp_1_6, zp_1_6n, zf_1_7, zp_1_7, zp_1_7n, zf_1_8, zp_1_8, zp_1_8n, zf_1_9, zp_1_9, zp_1_9n, zf_1_10, zp_1_10, zp_1_10n, zf_1_11, zp_1_11, zp_1_11n, zf_1_12, zp_1_12, zp_1_12n, zHis_rc g1, e1, if_neg g9, e2, zHis_rc w1, e3, zbk_v, zts_s, zts_n]
end ZDZ

theorem ynl_f {t : yT} (h : (!ynl t) = true) : t = .leaf := by
  cases t with
  | leaf => rfl
  | inner n k v l r => cases h
theorem ytw_el {n : Nat} {k v : Int32} {l r : yT} (h : ytw (.inner n k v l r) = true) : (k = nI 99 ∧ l = .leaf ∧ r = .leaf) ∨ (k = nI 118 ∧ ylet v = true ∧ l = .leaf ∧ r = .leaf) ∨ (k = nI 110 ∧ v = 0 ∧ ytw l = true ∧ r = .leaf) ∨ (yis k = true ∧ v = 0 ∧ ytw l = true ∧ ytw r = true) := by
  have h' : ((decide (k = nI 99) && !ynl l && !ynl r) || (decide (k = nI 118) && ylet v && !ynl l && !ynl r) || (decide (k = nI 110) && decide (v = 0) && ytw l && !ynl r) || (yis k && decide (v = 0) && ytw l && ytw r)) = true := by
    have h0 : (decide (n = 0) && ((decide (k = nI 99) && !ynl l && !ynl r) || (decide (k = nI 118) && ylet v && !ynl l && !ynl r) || (decide (k = nI 110) && decide (v = 0) && ytw l && !ynl r) || (yis k && decide (v = 0) && ytw l && ytw r))) = true := h
    rw [Bool.and_eq_true] at h0
    exact h0.2
  rw [Bool.or_eq_true, Bool.or_eq_true, Bool.or_eq_true] at h'
  rcases h' with ((h1 | h1) | h1) | h1
  · rw [Bool.and_eq_true, Bool.and_eq_true] at h1
    exact Or.inl ⟨of_decide_eq_true h1.1.1, ynl_f h1.1.2, ynl_f h1.2⟩
  · rw [Bool.and_eq_true, Bool.and_eq_true, Bool.and_eq_true] at h1
    exact Or.inr (Or.inl ⟨of_decide_eq_true h1.1.1.1, h1.1.1.2, ynl_f h1.1.2, ynl_f h1.2⟩)
  · rw [Bool.and_eq_true, Bool.and_eq_true, Bool.and_eq_true] at h1
    exact Or.inr (Or.inr (Or.inl ⟨of_decide_eq_true h1.1.1.1, of_decide_eq_true h1.1.1.2, h1.1.2, ynl_f h1.2⟩))
  · rw [Bool.and_eq_true, Bool.and_eq_true, Bool.and_eq_true] at h1
    exact Or.inr (Or.inr (Or.inr ⟨h1.1.1.1, of_decide_eq_true h1.1.1.2, h1.1.2, h1.2⟩))
theorem ytw_0 {n : Nat} {k v : Int32} {l r : yT} (h : ytw (.inner n k v l r) = true) : n = 0 := by
  have h0 : (decide (n = 0) && ((decide (k = nI 99) && !ynl l && !ynl r) || (decide (k = nI 118) && ylet v && !ynl l && !ynl r) || (decide (k = nI 110) && decide (v = 0) && ytw l && !ynl r) || (yis k && decide (v = 0) && ytw l && ytw r))) = true := h
  rw [Bool.and_eq_true] at h0
  exact of_decide_eq_true h0.1
theorem ytw_c {v : Int32} : ytw (ycn v) = true := rfl
theorem ytw_v {v : Int32} (h : ylet v = true) : ytw (ymk (nI 118) v .leaf .leaf) = true := by
  show (decide ((0 : Nat) = 0) && ((decide (nI 118 = nI 99) && !ynl .leaf && !ynl .leaf) || (decide (nI 118 = nI 118) && ylet v && !ynl .leaf && !ynl .leaf) || (decide (nI 118 = nI 110) && decide (v = 0) && ytw .leaf && !ynl .leaf) || (yis (nI 118) && decide (v = 0) && ytw .leaf && ytw .leaf))) = true
  rw [h]
  rfl
theorem ytw_n {a : yT} (h : ytw a = true) : ytw (ymk (nI 110) 0 a .leaf) = true := by
  show (decide ((0 : Nat) = 0) && ((decide (nI 110 = nI 99) && !ynl a && !ynl .leaf) || (decide (nI 110 = nI 118) && ylet 0 && !ynl a && !ynl .leaf) || (decide (nI 110 = nI 110) && decide ((0 : Int32) = 0) && ytw a && !ynl .leaf) || (yis (nI 110) && decide ((0 : Int32) = 0) && ytw a && ytw .leaf))) = true
  rw [h]
  cases ynl a <;> rfl
theorem ytw_o {k : Int32} {a b : yT} (hk : yis k = true) (ha : ytw a = true) (hb : ytw b = true) : ytw (ymk k 0 a b) = true := by
  show (decide ((0 : Nat) = 0) && ((decide (k = nI 99) && !ynl a && !ynl b) || (decide (k = nI 118) && ylet 0 && !ynl a && !ynl b) || (decide (k = nI 110) && decide ((0 : Int32) = 0) && ytw a && !ynl b) || (yis k && decide ((0 : Int32) = 0) && ytw a && ytw b))) = true
  rw [hk, ha, hb]
  simp
theorem ytw_sz : ∀ {t : yT}, ytw t = true → 0 < ysz t
  | .leaf, h => by cases h
  | .inner _ _ _ _ _, _ => Nat.succ_pos _
theorem yis_k {k : Int32} (h : yis k = true) : k = nI 43 ∨ k = nI 45 ∨ k = nI 42 := by
  unfold yis at h
  rw [Bool.or_eq_true, Bool.or_eq_true] at h
  rcases h with (h | h) | h
  · exact Or.inl (of_decide_eq_true h)
  · exact Or.inr (Or.inl (of_decide_eq_true h))
  · exact Or.inr (Or.inr (of_decide_eq_true h))
theorem yis_n110 {k : Int32} (h : yis k = true) : ¬ k = nI 110 := by
  intro g
  rw [g, yis_110] at h
  cases h
theorem ytw_yl {a : yT} (h : ytw a = true) (hk : yk a = nI 110) : ytw (yl a) = true := by
  cases a with
  | leaf => cases h
  | inner n k v l r =>
    have hk' : k = nI 110 := hk
    rcases ytw_el h with g | g | g | g
    · exact absurd (g.1.symm.trans hk') (by decide +kernel)
    · exact absurd (g.1.symm.trans hk') (by decide +kernel)
    · exact g.2.2.1
    · exact absurd hk' (yis_n110 g.1)
theorem ytw_ysn {a : yT} (h : ytw a = true) : ytw (ysn a) = true := by
  unfold ysn
  split
  · exact ytw_c
  · split
    · rename_i h1
      exact ytw_yl h h1
    · exact ytw_n h
theorem ytw_ysp {k : Int32} {a b : yT} (hk : yis k = true) (ha : ytw a = true) (hb : ytw b = true) : ytw (ysp k a b) = true := by
  unfold ysp ysu ysd ysm
  repeat' split
  all_goals first
    | exact ytw_c
    | exact ha
    | exact hb
    | (rename_i h1; exact ytw_yl hb h1)
    | exact ytw_n hb
    | exact ytw_o (by decide +kernel) ha hb
theorem ytw_ysim : ∀ t : yT, ytw t = true → ytw (ysim t) = true
  | .leaf, h => h
  | .inner n k v l r, h => by
    show ytw (if k = nI 110 then ysn (ysim l) else if yis k = true then ysp k (ysim l) (ysim r) else ymk k v .leaf .leaf) = true
    rcases ytw_el h with g | g | g | g
    · rw [g.1, if_neg (by decide +kernel), if_neg (by decide +kernel)]
      exact ytw_c
    · rw [g.1, if_neg (by decide +kernel), if_neg (by decide +kernel)]
      exact ytw_v g.2.1
    · rw [if_pos g.1]
      exact ytw_ysn (ytw_ysim l g.2.2.1)
    · rw [if_neg (yis_n110 g.1), if_pos g.1]
      exact ytw_ysp g.1 (ytw_ysim l g.2.2.1) (ytw_ysim r g.2.2.2)
theorem ysz_yl {a : yT} : ysz (yl a) ≤ ysz a := by
  cases a with
  | leaf => exact Nat.le_refl _
  | inner n k v l r =>
    show ysz l ≤ ysz l + ysz r + 1
    omega
theorem ysz_cn {v : Int32} : ysz (ycn v) = 1 := rfl
theorem ysz_ysn {a : yT} : ysz (ysn a) ≤ ysz a + 1 := by
  have := ysz_yl (a := a)
  unfold ysn
  split
  · rw [ysz_cn]; omega
  · split
    · omega
    · show ysz a + 0 + 1 ≤ _
      omega
theorem ysz_ysp {k : Int32} {a b : yT} : ysz (ysp k a b) ≤ ysz a + ysz b + 1 := by
  have m3 := ysz_yl (a := b)
  have m4 : ∀ k v, ysz (ymk k v b .leaf) = ysz b + 1 := fun k v => rfl
  unfold ysp ysu ysd ysm
  repeat' split
  all_goals first
    | (rw [ysz_cn]; omega)
    | (rw [ysz_mk]; omega)
    | (rw [m4]; omega)
    | omega
theorem ysz_ysim : ∀ t : yT, ysz (ysim t) ≤ ysz t
  | .leaf => Nat.le_refl _
  | .inner n k v l r => by
    have i1 := ysz_ysim l
    have i2 := ysz_ysim r
    show ysz (if k = nI 110 then ysn (ysim l) else if yis k = true then ysp k (ysim l) (ysim r) else ymk k v .leaf .leaf) ≤ ysz l + ysz r + 1
    split
    · have := ysz_ysn (a := ysim l)
      omega
    · split
      · have := ysz_ysp (k := k) (a := ysim l) (b := ysim r)
        omega
      · show 0 + 0 + 1 ≤ _
        omega
theorem ytw_yder {c : Int32} : ∀ t : yT, ytw t = true → ytw (yder c t) = true
  | .leaf, h => h
  | .inner n k v l r, h => by
    show ytw (if k = nI 110 then ymk (nI 110) 0 (yder c l) .leaf else if k = nI 43 ∨ k = nI 45 then ymk k 0 (yder c l) (yder c r) else if k = nI 42 then ymk (nI 43) 0 (ymk (nI 42) 0 (yder c l) r) (ymk (nI 42) 0 l (yder c r)) else ycn (if k = nI 118 ∧ v = c then nI 1 else 0)) = true
    rcases ytw_el h with g | g | g | g
    · rw [if_neg (by rw [g.1]; decide +kernel), if_neg (by rw [g.1]; decide +kernel), if_neg (by rw [g.1]; decide +kernel)]
      exact ytw_c
    · rw [if_neg (by rw [g.1]; decide +kernel), if_neg (by rw [g.1]; decide +kernel), if_neg (by rw [g.1]; decide +kernel)]
      exact ytw_c
    · rw [if_pos g.1]
      exact ytw_n (ytw_yder l g.2.2.1)
    · rw [if_neg (yis_n110 g.1)]
      split
      · exact ytw_o g.1 (ytw_yder l g.2.2.1) (ytw_yder r g.2.2.2)
      · split
        · exact ytw_o yis_43 (ytw_o yis_42 (ytw_yder l g.2.2.1) g.2.2.2) (ytw_o yis_42 g.2.2.1 (ytw_yder r g.2.2.2))
        · exact ytw_c
theorem ytw_yins {c : Int32} {w : yT} (hw : ytw w = true) : ∀ t : yT, ytw t = true → ytw (yins c w t) = true
  | .leaf, h => h
  | .inner n k v l r, h => by
    show ytw (if k = nI 118 ∧ v = c then w else ymk k v (yins c w l) (yins c w r)) = true
    split
    · exact hw
    · rcases ytw_el h with g | g | g | g
      · rw [g.1, g.2.1, g.2.2]
        exact ytw_c
      · rw [g.1, g.2.2.1, g.2.2.2]
        exact ytw_v g.2.1
      · rw [g.1, g.2.1, g.2.2.2]
        exact ytw_n (ytw_yins hw l g.2.2.1)
      · rw [g.2.1]
        exact ytw_o g.1 (ytw_yins hw l g.2.2.1) (ytw_yins hw r g.2.2.2)
theorem ydp_yder {c : Int32} : ∀ t : yT, ydp (yder c t) ≤ 2 * ydp t
  | .leaf => Nat.le_refl _
  | .inner n k v l r => by
    have i1 := ydp_yder (c := c) l
    have i2 := ydp_yder (c := c) r
    show ydp (if k = nI 110 then ymk (nI 110) 0 (yder c l) .leaf else if k = nI 43 ∨ k = nI 45 then ymk k 0 (yder c l) (yder c r) else if k = nI 42 then ymk (nI 43) 0 (ymk (nI 42) 0 (yder c l) r) (ymk (nI 42) 0 l (yder c r)) else ycn (if k = nI 118 ∧ v = c then nI 1 else 0)) ≤ 2 * (max (ydp l) (ydp r) + 1)
    split
    · show max (ydp (yder c l)) 0 + 1 ≤ _
      omega
    · split
      · rw [ydp_mk]
        omega
      · split
        · rw [ydp_mk, ydp_mk, ydp_mk]
          omega
        · rw [ydp_cn]
          omega
theorem ydp_yins {c : Int32} {w : yT} : ∀ t : yT, ydp (yins c w t) ≤ ydp t + ydp w
  | .leaf => Nat.zero_le _
  | .inner n k v l r => by
    have i1 := ydp_yins (c := c) (w := w) l
    have i2 := ydp_yins (c := c) (w := w) r
    show ydp (if k = nI 118 ∧ v = c then w else ymk k v (yins c w l) (yins c w r)) ≤ max (ydp l) (ydp r) + 1 + ydp w
    split
    · omega
    · rw [ydp_mk]
      omega
theorem ysz_dp : ∀ t : yT, ysz t < 2 ^ ydp t
  | .leaf => by decide
  | .inner n k v l r => by
    have i1 := ysz_dp l
    have i2 := ysz_dp r
    have p1 : 2 ^ ydp l ≤ 2 ^ max (ydp l) (ydp r) := Nat.pow_le_pow_right (by decide) (Nat.le_max_left _ _)
    have p2 : 2 ^ ydp r ≤ 2 ^ max (ydp l) (ydp r) := Nat.pow_le_pow_right (by decide) (Nat.le_max_right _ _)
    show ysz l + ysz r + 1 < 2 ^ (max (ydp l) (ydp r) + 1)
    rw [Nat.pow_succ]
    omega
theorem ysz_16 {t : yT} (h : ydp t ≤ 16) : ysz t < 2 ^ 31 := Nat.lt_of_lt_of_le (ysz_dp t) (Nat.pow_le_pow_right (by decide) (by omega))
/-- the nodes of a term in post-order stand for its subterms, the last one for itself -/
theorem ytm_ypo : ∀ (t : yT) (ms : List yN), ywf ms → ms.length + ysz t < 2 ^ 31 → ywf (ms ++ ypo ms.length t) ∧ (ytw t = true → ygt (ytm (ms ++ ypo ms.length t)) (yri ms.length t) = t)
  | .leaf, ms, hw, _ => ⟨by rw [show ypo ms.length (.leaf : yT) = [] from rfl, List.append_nil]; exact hw, fun h => by cases h⟩
  | .inner n k v l r, ms, hw, hl => by
    have hl' : ms.length + (ysz l + ysz r + 1) < 2 ^ 31 := hl
    have e1 : ypo ms.length (.inner n k v l r) = ypo ms.length l ++ ypo (ms.length + ysz l) r ++ [(k, v, yri ms.length l, yri (ms.length + ysz l) r)] := rfl
    obtain ⟨w1, t1⟩ := ytm_ypo l ms hw (by omega)
    have n1 : (ms ++ ypo ms.length l).length = ms.length + ysz l := by rw [List.length_append, ypo_len]
    obtain ⟨w2, t2⟩ := ytm_ypo r (ms ++ ypo ms.length l) w1 (by omega)
    rw [n1] at w2 t2
    have n2 : (ms ++ ypo ms.length l ++ ypo (ms.length + ysz l) r).length = ms.length + ysz l + ysz r := by rw [List.length_append, n1, ypo_len]
    have c1 : ∀ (o : Nat) (u : yT), ych (o + ysz u) (yri o u) := fun o u => by
      cases u with
      | leaf => exact Or.inl rfl
      | inner n k v a b =>
        refine Or.inr ⟨o + ysz a + ysz b, ?_, rfl⟩
        show _ < o + (ysz a + ysz b + 1)
        omega
    have w3 := ywf_snoc (nd := (k, v, yri ms.length l, yri (ms.length + ysz l) r)) w2 (ych_mono (c1 ms.length l) (by omega)) (ych_mono (c1 (ms.length + ysz l) r) (by omega)) (by omega)
    rw [e1, ← List.append_assoc, ← List.append_assoc]
    refine ⟨w3, fun hh => ?_⟩
    have h0 := ytw_0 hh
    subst h0
    have hr : yri ms.length (.inner 0 k v l r) = nI (ms ++ ypo ms.length l ++ ypo (ms.length + ysz l) r).length := by rw [n2]; rfl
    rw [hr, ygt_new (by omega)]
    show ymk k v (ygt _ (yri ms.length l)) (ygt _ (yri (ms.length + ysz l) r)) = ymk k v l r
    have g1 : (l = .leaf ∨ ytw l = true) ∧ (r = .leaf ∨ ytw r = true) := by
      rcases ytw_el hh with g | g | g | g
      · exact ⟨Or.inl g.2.1, Or.inl g.2.2⟩
      · exact ⟨Or.inl g.2.2.1, Or.inl g.2.2.2⟩
      · exact ⟨Or.inr g.2.2.1, Or.inl g.2.2.2⟩
      · exact ⟨Or.inr g.2.2.1, Or.inr g.2.2.2⟩
    have a1 : ygt (ytm (ms ++ ypo ms.length l ++ ypo (ms.length + ysz l) r)) (yri ms.length l) = l := by
      rcases g1.1 with g | g
      · subst g
        rw [show yri ms.length (.leaf : yT) = -1 from rfl, ygt_n]
      · rw [ygt_pre (by omega) (ych_mono (c1 ms.length l) (by omega)), t1 g]
    have a2 : ygt (ytm (ms ++ ypo ms.length l ++ ypo (ms.length + ysz l) r)) (yri (ms.length + ysz l) r) = r := by
      rcases g1.2 with g | g
      · subst g
        rw [show yri (ms.length + ysz l) (.leaf : yT) = -1 from rfl, ygt_n]
      · exact t2 g
    rw [a1, a2]
theorem yform {t : yT} (ht : ytw t = true) (hs : ysz t < 2 ^ 31) : ywf (ypo 0 t) ∧ ygt (ytm (ypo 0 t)) (nI (ysz t - 1)) = t ∧ (ypo 0 t).length = ysz t ∧ 0 < ysz t := by
  obtain ⟨w, e⟩ := ytm_ypo t [] ywf_nil (by rw [List.length_nil]; omega)
  rw [List.length_nil, List.nil_append] at w e
  have h0 := ytw_sz ht
  have hr : yri 0 t = nI (ysz t - 1) := by
    cases t with
    | leaf => cases ht
    | inner n k v l r =>
      show nI (0 + ysz l + ysz r) = nI (ysz l + ysz r + 1 - 1)
      congr 1
      omega
  rw [hr] at e
  exact ⟨w, e ht, ypo_len t 0, h0⟩
theorem ypo_bd {B : Nat} : ∀ (t : yT) (ms : List yN), ywf ms → ms.length + ysz t < 2 ^ 31 → yBd B ms → (t = .leaf ∨ ytw t = true) → ydp t ≤ B → yBd B (ms ++ ypo ms.length t)
  | .leaf, ms, _, _, hb, _, _ => by
    rw [show ypo ms.length (.leaf : yT) = [] from rfl, List.append_nil]
    exact hb
  | .inner n k v l r, ms, hw, hl, hb, ht, hd => by
    have hh := ht.resolve_left (fun g => by cases g)
    have hl' : ms.length + (ysz l + ysz r + 1) < 2 ^ 31 := hl
    have hd' : max (ydp l) (ydp r) + 1 ≤ B := hd
    have g1 : (l = .leaf ∨ ytw l = true) ∧ (r = .leaf ∨ ytw r = true) := by
      rcases ytw_el hh with g | g | g | g
      · exact ⟨Or.inl g.2.1, Or.inl g.2.2⟩
      · exact ⟨Or.inl g.2.2.1, Or.inl g.2.2.2⟩
      · exact ⟨Or.inr g.2.2.1, Or.inl g.2.2.2⟩
      · exact ⟨Or.inr g.2.2.1, Or.inr g.2.2.2⟩
    have i1 := ypo_bd l ms hw (by omega) hb g1.1 (by omega)
    obtain ⟨w1, t1⟩ := ytm_ypo l ms hw (by omega)
    have n1 : (ms ++ ypo ms.length l).length = ms.length + ysz l := by rw [List.length_append, ypo_len]
    have i2 := ypo_bd r (ms ++ ypo ms.length l) w1 (by omega) i1 g1.2 (by omega)
    rw [n1] at i2
    have e1 : ypo ms.length (.inner n k v l r) = ypo ms.length l ++ ypo (ms.length + ysz l) r ++ [(k, v, yri ms.length l, yri (ms.length + ysz l) r)] := rfl
    have n2 : (ms ++ ypo ms.length l ++ ypo (ms.length + ysz l) r).length = ms.length + ysz l + ysz r := by rw [List.length_append, n1, ypo_len]
    have hr : yri ms.length (.inner n k v l r) = nI (ms ++ ypo ms.length l ++ ypo (ms.length + ysz l) r).length := by rw [n2]; rfl
    obtain ⟨w9, t9⟩ := ytm_ypo (.inner n k v l r) ms hw hl
    have e9 := t9 hh
    rw [e1, ← List.append_assoc, ← List.append_assoc, hr, ygt_new (by omega)] at e9
    rw [e1, ← List.append_assoc, ← List.append_assoc]
    refine yBd_snoc i2 ?_
    rw [e9]
    exact hd
theorem yform_bd {t : yT} {B : Nat} (ht : ytw t = true) (hs : ysz t < 2 ^ 31) (hd : ydp t ≤ B) : yBd B (ypo 0 t) := by
  have := ypo_bd t [] ywf_nil (by rw [List.length_nil]; omega) yBd_nil (Or.inr ht) hd
  rw [List.length_nil, List.nil_append] at this
  exact this

theorem zFs_set {h : zH} {m i b : Nat} {as : List Nat} {ts : List yT} {u : yT} (hf : zFs h m as ts) (hi : i < as.length) (hb : m + 139 ≤ b ∧ b + 9 ≤ h.2.1 ∧ zTre h b (ysz u) (ypo 0 u)) : zFs h m (as.set i b) (ts.set i u) := by
  refine ⟨by rw [List.length_set, List.length_set]; exact hf.1, fun j a t h1 h2 => ?_⟩
  have hl := hf.1
  by_cases hj : j = i
  · subst hj
    rw [List.getElem?_set_self hi] at h1
    rw [List.getElem?_set_self (by omega)] at h2
    injection h1 with h1
    injection h2 with h2
    subst h1 h2
    exact hb
  · rw [List.getElem?_set_ne (Ne.symm hj)] at h1 h2
    exact hf.2 j a t h1 h2
theorem zFs_app {h : zH} {m b : Nat} {as : List Nat} {ts : List yT} {u : yT} (hf : zFs h m as ts) (hb : m + 139 ≤ b ∧ b + 9 ≤ h.2.1 ∧ zTre h b (ysz u) (ypo 0 u)) : zFs h m (as ++ [b]) (ts ++ [u]) := by
  have hl := hf.1
  refine ⟨by rw [List.length_append, List.length_append, hl]; rfl, fun j a t h1 h2 => ?_⟩
  by_cases hj : j < as.length
  · rw [List.getElem?_append_left hj] at h1
    rw [List.getElem?_append_left (by omega)] at h2
    exact hf.2 j a t h1 h2
  · rw [List.getElem?_append_right (by omega)] at h1
    rw [List.getElem?_append_right (by omega)] at h2
    have hj2 : j - as.length = 0 := by
      have := (List.getElem?_eq_some_iff.mp h1).1
      have e : [b].length = 1 := rfl
      omega
    rw [hj2] at h1
    rw [show j - ts.length = 0 by omega] at h2
    injection h1 with h1
    injection h2 with h2
    subst h1 h2
    exact hb
theorem zScr_gau {h h' : zH} {m : Nat} {A B C : List Int32} (hs : zScr h m) (hf : ∀ q, q < m + 119 → (q < m + 78 ∨ m + 85 ≤ q) → h'.1 q = h.1 q) (hg : zGau h' (m + 78) A B C) : zScr h' m := by
  obtain ⟨⟨n1, a1⟩, ⟨n2, a2⟩, ⟨P, a3⟩, _, a5, a6⟩ := hs
  exact ⟨⟨n1, zTre_cg a1 (fun q b c => hf q (by omega) (by omega))⟩, ⟨n2, zTre_cg a2 (fun q b c => hf q (by omega) (by omega))⟩, ⟨P, zAl_cg a3 (fun q b c => hf q (by omega) (by omega))⟩, ⟨A, B, C, hg⟩, zNum_cg a5 (fun q b c => hf q (by omega) (by omega)), zCod_cg a6 (fun q b c => hf q (by omega) (by omega))⟩
theorem zScr_ro {h h' : zH} {m : Nat} {ns : List yN} {P : List Int32} (hs : zScr h m) (hf : zf2 (m + 45) (m + 54) (m + 75) (m + 78) h h') (ht : zTre h' (m + 45) 124 ns) (hp : zAl h' (m + 75) P) : zScr h' m := by
  obtain ⟨_, ⟨n2, a2⟩, _, ⟨A, B, C, a4⟩, a5, a6⟩ := hs
  exact ⟨⟨ns, ht⟩, ⟨n2, zTre_cg a2 (zcg_f2 hf (by omega) (by omega))⟩, ⟨P, hp⟩, ⟨A, B, C, zGau_cg a4 (zcg_f2 hf (by omega) (by omega))⟩, zNum_cg a5 (zcg_f2 hf (by omega) (by omega)), zCod_cg a6 (zcg_f2 hf (by omega) (by omega))⟩
theorem zScr_sm {h h' : zH} {m : Nat} {ns : List yN} {P : List Int32} (hs : zScr h m) (hf : zf2 (m + 54) (m + 63) (m + 75) (m + 78) h h') (ht : zTre h' (m + 54) 124 ns) (hp : zAl h' (m + 75) P) : zScr h' m := by
  obtain ⟨⟨n2, a2⟩, _, _, ⟨A, B, C, a4⟩, a5, a6⟩ := hs
  exact ⟨⟨n2, zTre_cg a2 (zcg_f2 hf (by omega) (by omega))⟩, ⟨ns, ht⟩, ⟨P, hp⟩, ⟨A, B, C, zGau_cg a4 (zcg_f2 hf (by omega) (by omega))⟩, zNum_cg a5 (zcg_f2 hf (by omega) (by omega)), zCod_cg a6 (zcg_f2 hf (by omega) (by omega))⟩
theorem zCls_f2 {h h' : zH} {m a b c e : Nat} {w : yW} (hc : zCls h m w) (hf : zf2 a b c e h h') (h1 : m + 45 ≤ a) (h2 : b ≤ m + 63 ∨ m + 75 ≤ a) (h3 : m + 45 ≤ c) (h4 : e ≤ m + 63 ∨ m + 75 ≤ c) (h5 : b ≤ m + 119) (h6 : e ≤ m + 119) (hs : zScr h' m) : zCls h' m w := zCls_q hc (zcg_f2 hf (by omega) (by omega)) (zcg_f2 hf (by omega) (by omega)) ⟨fun q a b => hf.1 q (by omega) (by omega), by rw [hf.2]; exact Nat.le_refl _⟩ hs
section ZEA
variable {sv : Nat → Value} {d : Nat} {h : zH} {m : Nat} {w : yW}
theorem d_175S {s i b : Nat} {S : yS} (hs : zSta h s S) (hi : i < S.1.length) (hb : ∃ vs, h.1 b = (6, vs)) : ∃ h', zcall zP sv (d + 1) 175 [.ref s, .int (nI i), .ref b] h = some (.inl none, h') ∧ zSta h' s (S.1.set i b, S.2) ∧ zfr s (s + 4) h h' := by
  obtain ⟨h1, ⟨F, h2, h3, h4⟩, h5, h6, h7⟩ := hs
  have e1 := d_175 (sv := sv) (d := d) (i := i) (b := b) h1 h2 h3 (by omega) hb
  refine ⟨_, e1, ⟨by rw [zup_ne (by omega), h1, List.length_set], ⟨F.set i (.ref b), zup_at, by rw [List.length_set, h3], fun j hj => ?_⟩, zRow_up h5 (by omega) (by omega), h6, by rw [List.length_set]; exact h7⟩, zfr_up (by omega) (by omega)⟩
  by_cases hj2 : j = i
  · subst hj2
    rw [List.getElem?_set_self (by omega), ygv_k (List.getElem?_set_self hi)]
  · rw [List.getElem?_set_ne (Ne.symm hj2), h4 j hj]
    unfold ygv
    rw [List.getElem?_set_ne (Ne.symm hj2)]
theorem zTre_k6 {t mm : Nat} {ns : List yN} (ht : zTre h t mm ns) : ∃ vs, h.1 t = (6, vs) := by
  obtain ⟨K, N, L, R, e, _⟩ := ht
  exact ⟨_, e⟩
/-- a new formula out of a work tree, at class level -/
theorem d_75E {a ma : Nat} {ns : List yN} {x : Int32} {t : yT} (hc : zCls h m w) (ht : zTre h a ma ns) (hw : ywf ns) (hn : ns.length ≤ 124) (hd : m + 85 ≤ a ∨ a + 9 ≤ m + 78) (hb : a + 9 ≤ h.2.1) (hx : ych ns.length x) (hxt : ygt (ytm ns) x = t) (hs0 : 0 < ysz t) (hs : ysz t ≤ 31) (hdp : ydp t ≤ 40) : ∃ h', zcall zP sv (d + 45) 75 [.ref m, .ref a, .int x] h = some (.inl (some (.ref h.2.1)), h') ∧ zCls h' m w ∧ zfx (m + 78) (m + 85) 9 134 h h' ∧ zTre h' h.2.1 (ysz t) (ypo 0 t) ∧ h'.2.1 = h.2.1 + 9 := by
  have hc' := hc
  have c0 := hc.1
  have cs := hc.2.2.2.2.2.2.1
  obtain ⟨A, B, C, hg⟩ := cs.2.2.2.1
  subst hxt
  obtain ⟨h', A', e, g, T, f, s1, s2⟩ := d_75 (sv := sv) (d := d) (zCls_0 hc) hg ht hw hn hd hb (by omega) hx hs0 (by omega) hdp
  have hfx : zfx (m + 78) (m + 85) 9 134 h h' := ⟨f, by omega, by omega, by omega⟩
  refine ⟨h', e, zCls_q hc' (zcg_fx hfx (by omega) (by omega)) (zcg_fx hfx (by omega) (by omega)) (zkp_fx hfx (by omega)) (zScr_gau cs (fun q q1 q2 => f q (by omega) q2) g), hfx, T, s1⟩
theorem d_28n {x : Int32} (hc : zCls h m w) (hx : x < 0 ∨ ¬ x < nI (ycur w).1.length) : zEnd h m (zcall zP sv (d + 47) 28 [.ref m, .int x] h) 1 6 (.inr 2) w := by
  obtain ⟨t1, t2⟩ := zthrow hc
  refine ⟨_, ?_, t1, t2⟩
  have q1 := zCls_0 hc
  have e1 := d_70n (sv := sv) (d := d + 44) hc hx
  have q5 : ∀ X : zR, zrc (h.1 m) 1 X = X := fun X => by rw [q1]; exact zrc_k
  simp (disch := exact znw_u) only [zc_28, zs_28_0, zs_28_1, zs_28_2, zs_28_5, zs_28_6, zs_28_7, zs_28_10, zs_28_11, zs_28_12, zs_28_15, zs_28_16, zs_28_19, zs_28_22, zs_28_23, zs_28_24, zs_28_25, zs_28_28, zs_28_29, zs_28_32, zs_28_34, zs_28_35, zs_28_38, zs_28_40, zs_28_43, zs_28_44, zs_28_46, zs_28_47, zs_28_50, zs_28_51, zs_28_54, zs_28_57, zs_28_58, zs_28_61, zs_28_62, zs_28_64, zs_28_67, zs_28_68, zs_28_71, zs_28_73, zs_28_76, zs_28_78, q5, e1, zbk_x]
theorem zthr_his (hc : zCls h m w) : ∀ X, zrc (h.1 (m + 11)) 5 X = X := fun X => by
  obtain ⟨_, _, _, _, ⟨H, k1, _⟩, _⟩ := hc
  exact zHis_rc k1
theorem d_28 {i : Nat} {t : yT} (hc : zCls h m w) (hi : (ycur w).1[i]? = some t) : zEnd h m (zcall zP sv (d + 47) 28 [.ref m, .int (nI i)] h) 9 134 (.inl (some (.int (nI (ysz t - ysz (ysim t)))))) (ysc (yrec w) ((ycur w).1.set i (ysim t), (ycur w).2.1, (ycur w).2.2.1, (ycur w).2.2.2 + nI (ysz t - ysz (ysim t)))) := by
  have q1 := zCls_0 hc
  have q5 : ∀ X : zR, zrc (h.1 m) 1 X = X := fun X => by rw [q1]; exact zrc_k
  have c0 := hc.1
  have cs := hc.2.2.2.2.2.2.1
  obtain ⟨a, e0, a1, a2, a3, a4⟩ := d_70k (sv := sv) (d := d + 44) hc hi
  have hil := (List.getElem?_eq_some_iff.mp hi).1
  obtain ⟨f1, f2, f3, f4⟩ := yform a4.1 (by have := a4.2.1; omega)
  obtain ⟨n2, b2⟩ := cs.2.1
  obtain ⟨P, b3⟩ := cs.2.2.1
  have hsz := a4.2.1
  have hdp := a4.2.2
  have hroot : nI (ypo 0 t).length - nI 1 = nI (ysz t - 1) := by
    rw [f3]
    conv => lhs; rw [show ysz t = ysz t - 1 + 1 by omega, ← nI_add, Int32.add_sub_cancel]
  have hdps : ∀ x, ych (ypo 0 t).length x → ydp (ysim (ygt (ytm (ypo 0 t)) x)) ≤ 40 := fun x hx => by
    have h1 := ydp_ysim (ygt (ytm (ypo 0 t)) x)
    have h2 : ∀ (u : yT) (ns : List yN) (y : Int32), ywf ns → ych ns.length y → ydp (ygt (ytm ns) y) ≤ ns.length := fun u ns y hw hy => by
      rcases hy with rfl | ⟨j, hj, rfl⟩
      · rw [ygt_n]; exact Nat.zero_le _
      · have : ∀ n j, j ≤ n → j < ns.length → ydp (ygt (ytm ns) (nI j)) ≤ j + 1 := by
          intro n
          induction n with
          | zero =>
            intro j hj hl
            obtain rfl : j = 0 := by omega
            obtain ⟨nd, hnd⟩ := ynd_ex hl
            have hc := hw.2 0 nd hnd
            have z : ∀ y, ych 0 y → ygt (ytm ns) y = .leaf := fun y hy => by
              rcases hy with rfl | ⟨k, hk, _⟩
              · exact ygt_n
              · omega
            rw [ygt_at hw hnd, z _ hc.1, z _ hc.2]
            exact Nat.le_refl _
          | succ n ih =>
            intro j hj hl
            obtain ⟨nd, hnd⟩ := ynd_ex hl
            have hc := hw.2 j nd hnd
            have z : ∀ y, ych j y → ydp (ygt (ytm ns) y) ≤ j := fun y hy => by
              rcases hy with rfl | ⟨k, hk, rfl⟩
              · rw [ygt_n]; exact Nat.zero_le _
              · have := ih k (by omega) (by omega)
                omega
            rw [ygt_at hw hnd, ydp_mk]
            have := z _ hc.1
            have := z _ hc.2
            omega
        have := this j j (Nat.le_refl _) hj
        omega
    have := h2 t (ypo 0 t) x f1 hx
    omega
  obtain ⟨h1, os, P1, x, e1, o1, o2, o3, o4, o5, o6, o7⟩ := d_95 (sv := sv) (d := d) (rt := nI (ysz t - 1)) f1 (by omega) (show a + 9 ≤ m + 54 ∨ m + 54 + 9 ≤ a by omega) (show a + 9 ≤ m + 75 ∨ m + 75 + 3 ≤ a by omega) (by omega) hdps a3 b2 b3 (Or.inr ⟨ysz t - 1, by omega, rfl⟩)
  rw [f2] at o6
  have C1 := zCls_f2 hc o7 (by omega) (by omega) (by omega) (by omega) (by omega) (by omega) (zScr_sm cs o7 o3 o4)
  have hss := ysz_ysim t
  have hds := ydp_ysim t
  have hw2 := ytw_ysim t a4.1
  have k1 : zkp m h h1 := ⟨fun q p1 p2 => o7.1 q (by omega) (by omega), by rw [o7.2]; exact Nat.le_refl _⟩
  obtain ⟨h2, e2, C2, fx2, T2, s2⟩ := d_75E (sv := sv) (d := d + 1) (t := ysim t) C1 o3 o2 (by omega) (by omega) (by rw [o7.2]; omega) o5 o6 (ytw_sz hw2) (by omega) (by omega)
  rw [o7.2] at e2 T2 s2
  have k2 : zkp m h1 h2 := zkp_fx fx2 (by omega)
  have A2 := zTre_cg a3 (fun q p1 p2 => ((zkp_tr k1 k2).1 q (by omega) (by omega)))
  obtain ⟨h3, e3, C3, f3'⟩ := d_132E (sv := sv) (d := d + 42) C2
  obtain ⟨S, s1, s2'⟩ := C3.2.2.1
  have hl : S.1.length = (ycur w).1.length := s2'.2.1.1
  have T3 := zTre_cg T2 (zcg_fr f3' (by omega))
  obtain ⟨h4, e4, w4, f4'⟩ := d_175S (sv := sv) (d := d + 45) (i := i) s1 (by omega) (zTre_k6 T3)
  obtain ⟨h5, e5, w5, f5'⟩ := d_177 (sv := sv) (d := d + 45) (x := nI (ysz t - ysz (ysim t))) w4
  have f45 := zfr_tr f4' f5'
  have k45 := zkp_fr (m := m) f45 (by omega)
  have T5 := zTre_cg T3 (zcg_fr f45 (by omega))
  have q5S : S.2 = (ycur w).2 := s2'.1
  have b3S := s2'.2.2
  have hA5 : zAS h5 m (S.1.set i h.2.1, S.2.1, S.2.2.1, S.2.2.2 + nI (ysz t - ysz (ysim t))) ((ycur w).1.set i (ysim t), (ycur w).2.1, (ycur w).2.2.1, (ycur w).2.2.2 + nI (ysz t - ysz (ysim t))) := by
    refine ⟨by rw [q5S], zFs_set (zFs_kp s2'.2.1 k45) (by omega) ⟨c0, by rw [f45.2, f3'.2, s2]; exact Nat.le_refl _, T5⟩, ?_, fun u hu => ?_, b3S.2.2⟩
    · rw [List.length_set]; exact b3S.1
    · rcases List.mem_or_eq_of_mem_set hu with g | g
      · exact b3S.2.1 u g
      · rw [g]
        exact ⟨hw2, by omega, by omega⟩
  refine ⟨h5, ?_, zCls_cur C3 f45 w5 hA5, ?_⟩
  · have e6 := d_182 (sv := sv) (d := d + 45) A2
    have e7 := d_182 (sv := sv) (d := d + 45) T2
    have q2 : h2.1 m = zECc m w.2.1 (yb w.2.2.1) := zCls_0 C2
    have q3 : h3.1 m = zECc m w.2.1 (yb w.2.2.1) := zCls_0 (w := yrec w) C3
    have q4 : h4.1 m = zECc m w.2.1 (yb w.2.2.1) := by rw [f4'.1 m (by omega), q3]
    have hp1 := zCls_0 C1
    have q6 : ∀ X : zR, zrc (h1.1 m) 1 X = X := fun X => by rw [hp1]; exact zrc_k
    have edec : nI (ypo 0 t).length - nI (ypo 0 (ysim t)).length = nI (ysz t - ysz (ysim t)) := by
      rw [ypo_len, ypo_len]
      conv => lhs; rw [show ysz t = ysz t - ysz (ysim t) + ysz (ysim t) by omega, ← nI_add, Int32.add_sub_cancel]
    simp (disch := exact znw_u) only [zc_28, zs_28_0, zs_28_1, zs_28_2, zs_28_5, zs_28_6, zs_28_7, zs_28_10, zs_28_11, zs_28_12, zs_28_15, zs_28_16, zs_28_19, zs_28_22, zs_28_23, zs_28_24, zs_28_25, zs_28_28, zs_28_29, zs_28_32, zs_28_34, zs_28_35, zs_28_38, zs_28_40, zs_28_43, zs_28_44, zs_28_46, zs_28_47, zs_28_50, zs_28_51, zs_28_54, zs_28_57, zs_28_58, zs_28_61, zs_28_62, zs_28_64, zs_28_67, zs_28_68, zs_28_71, zs_28_73, zs_28_76, zs_28_78, q5, e0, q1, hp1, q2, q3, q4, zECc, zrc_1, zf_1_0, zp_1_0, zp_1_0n, zf_1_1, zp_1_1, zf_1_2, zp_1_2, zp_1_2n, zf_1_3, zp_1_3, zp_1_3n, zf_1_4, zp_1_40, zp_1_41, zf_1_5, zp_1_5, zp_1_5n, zf_1_6, zp_1_6, zp_1_6n, zf_1_7, zp_1_7, zp_1_7n, zf_1_8, zp_1_8, zp_1_8n, zf_1_9, zp_1_9, zp_1_9n, zf_1_10, zp_1_10, zp_1_10n, zf_1_11, zp_1_11, zp_1_11n, zf_1_12, zp_1_12, zp_1_12n, zAl_rc b3, zTre_rc a3, d_183 a3, hroot, e1, q6, e2, zTre_rc A2, zTre_rc T2, e6, e7, edec, zthr_his C2, e3, zSta_rc s1, e4, zSta_rc w4, e5, zbk_v, zts_s, zts_n]
  · have g1 : zfx m (m + 119) 0 0 h h1 := ⟨fun q _ p => o7.1 q (by omega) (by omega), by rw [o7.2]; exact Nat.le_refl _, by rw [o7.2]; exact Nat.le_refl _, by rw [o7.2]; exact Nat.le_refl _⟩
    exact zfx_mono (zfx_tr g1 (zfx_tr (zfx_mono fx2 (by omega) (by omega) (Nat.le_refl _) (Nat.le_refl _)) (zfx_tr (zfr_fx f3' (by omega) (by omega)) (zfr_fx f45 (by omega) (by omega))))) (Nat.le_refl _) (Nat.le_refl _) (by omega) (by omega)
end ZEA

def yfit (t : yT) : Prop := ysz t ≤ 31 ∧ ydp t ≤ 8
section ZEB
variable {sv : Nat → Value} {d : Nat} {h : zH} {m : Nat} {w : yW}
theorem zCls_g {h' : zH} {A B C : List Int32} (hc : zCls h m w) (hf : zfr (m + 78) (m + 85) h h') (hg : zGau h' (m + 78) A B C) : zCls h' m w := zCls_q hc (zcg_fr hf (by omega)) (zcg_fr hf (by omega)) (zkp_fr hf (by omega)) (zScr_gau hc.2.2.2.2.2.2.1 (fun q _ q2 => hf.1 q q2) hg)
theorem d_74E {a ma : Nat} {ns : List yN} {x : Int32} {t : yT} (hc : zCls h m w) (ht : zTre h a ma ns) (hw : ywf ns) (hn : ns.length ≤ 124) (hd : m + 85 ≤ a ∨ a + 9 ≤ m + 78) (hx : ych ns.length x) (hxt : ygt (ytm ns) x = t) (hsz : ysz t < 2 ^ 31) (hf : yfit t) : ∃ h', zcall zP sv (d + 5) 74 [.ref m, .ref a, .int x] h = some (.inl none, h') ∧ zCls h' m w ∧ zfr (m + 78) (m + 85) h h' := by
  have hdp := ydp_sz t
  have q1 := zCls_0 hc
  obtain ⟨A, B, C, hg⟩ := hc.2.2.2.2.2.2.1.2.2.2.1
  obtain ⟨h1, A1, e1, g1, r1, f1⟩ := d_117 (sv := sv) (d := d) (rt := x) hw (by omega) hn ht hg
  have ht1 := zTre_fr ht f1 (by omega)
  obtain ⟨h2, A2, e2, g2, r2, f2⟩ := d_118 (sv := sv) (d := d) (rt := x) hw (by omega) hn ht1 g1
  rw [yQ_g r1 hx (Nat.le_refl _) hw.1, hxt, yfo_N] at e1
  rw [yQ_g r2 hx (Nat.le_refl _) hw.1, hxt, yfo_L t (by omega)] at e2
  have q2 : h1.1 m = zECc m w.2.1 (yb w.2.2.1) := by rw [f1.1 m (by omega)]; exact q1
  refine ⟨h2, ?_, zCls_g hc (zfr_tr f1 f2) g2, zfr_tr f1 f2⟩
  have c1 : ¬ nI 31 < nI (ysz t) := nI_nlt hf.1 (by decide)
  have c2 : ¬ nI 8 < nI (ydp t) := nI_nlt hf.2 (by decide)
  simp (disch := exact znw_u) only [zc_74, zs_74_0, zs_74_1, zs_74_4, zs_74_5, zs_74_6, zs_74_9, zs_74_11, zs_74_14, zs_74_15, zs_74_18, zs_74_19, zs_74_20, zs_74_23, zs_74_25, zs_74_28, zs_74_39, q1, q2, zECc, zrc_1, zf_1_0, zp_1_0, zp_1_0n, zf_1_1, zp_1_1, zf_1_2, zp_1_2, zp_1_2n, zf_1_3, zp_1_3, zp_1_3n, zf_1_4, zp_1_40, zp_1_41, zf_1_5, zp_1_5, zp_1_5n, zf_1_6, zp_1_6, zp_1_6n, zf_1_7, zp_1_7, zp_1_7n, zf_1_8, zp_1_8, zp_1_8n, zf_1_9, zp_1_9, zp_1_9n, zf_1_10, zp_1_10, zp_1_10n, zf_1_11, zp_1_11, zp_1_11n, zf_1_12, zp_1_12, zp_1_12n, zGau_rc hg, zGau_rc g1, e1, e2, if_neg c1, if_neg c2, zbk_v, zts_s]
theorem d_74n {a ma : Nat} {ns : List yN} {x : Int32} {t : yT} (hc : zCls h m w) (ht : zTre h a ma ns) (hw : ywf ns) (hn : ns.length ≤ 124) (hd : m + 85 ≤ a ∨ a + 9 ≤ m + 78) (hx : ych ns.length x) (hxt : ygt (ytm ns) x = t) (hsz : ysz t < 2 ^ 31) (hf : ¬ yfit t) : ∃ h', zcall zP sv (d + 5) 74 [.ref m, .ref a, .int x] h = some (.inr 3, h') ∧ zCls h' m w ∧ zfx m (m + 119) 1 6 h h' := by
  have hdp := ydp_sz t
  have q1 := zCls_0 hc
  obtain ⟨A, B, C, hg⟩ := hc.2.2.2.2.2.2.1.2.2.2.1
  obtain ⟨h1, A1, e1, g1, r1, f1⟩ := d_117 (sv := sv) (d := d) (rt := x) hw (by omega) hn ht hg
  have ht1 := zTre_fr ht f1 (by omega)
  obtain ⟨h2, A2, e2, g2, r2, f2⟩ := d_118 (sv := sv) (d := d) (rt := x) hw (by omega) hn ht1 g1
  rw [yQ_g r1 hx (Nat.le_refl _) hw.1, hxt, yfo_N] at e1
  rw [yQ_g r2 hx (Nat.le_refl _) hw.1, hxt, yfo_L t (by omega)] at e2
  have q2 : h1.1 m = zECc m w.2.1 (yb w.2.2.1) := by rw [f1.1 m (by omega)]; exact q1
  have hs := hsz
  by_cases c1 : ysz t ≤ 31
  · have c2 : nI 8 < nI (ydp t) := nI_lt (by
      have h9 : ¬ ydp t ≤ 8 := fun g => hf ⟨c1, g⟩
      omega) (by omega)
    have c3 : ¬ nI 31 < nI (ysz t) := nI_nlt c1 (by decide)
    have C2 := zCls_g hc (zfr_tr f1 f2) g2
    obtain ⟨t1, t2⟩ := zthrow C2
    refine ⟨_, ?_, t1, zfx_mono (zfx_tr (zfr_fx (zfr_tr f1 f2) (by omega) (by omega)) t2) (Nat.le_refl _) (Nat.le_refl _) (by omega) (by omega)⟩
    simp (disch := exact znw_u) only [zc_74, zs_74_0, zs_74_1, zs_74_4, zs_74_5, zs_74_6, zs_74_9, zs_74_11, zs_74_14, zs_74_15, zs_74_18, zs_74_19, zs_74_20, zs_74_23, zs_74_25, zs_74_28, zs_74_39, q1, q2, zECc, zrc_1, zf_1_0, zp_1_0, zp_1_0n, zf_1_1, zp_1_1, zf_1_2, zp_1_2, zp_1_2n, zf_1_3, zp_1_3, zp_1_3n, zf_1_4, zp_1_40, zp_1_41, zf_1_5, zp_1_5, zp_1_5n, zf_1_6, zp_1_6, zp_1_6n, zf_1_7, zp_1_7, zp_1_7n, zf_1_8, zp_1_8, zp_1_8n, zf_1_9, zp_1_9, zp_1_9n, zf_1_10, zp_1_10, zp_1_10n, zf_1_11, zp_1_11, zp_1_11n, zf_1_12, zp_1_12, zp_1_12n, zGau_rc hg, zGau_rc g1, e1, e2, if_neg c3, if_pos c2, zbk_v, zts_s, zext_of]
  · have c3 : nI 31 < nI (ysz t) := nI_lt (by omega) hs
    have C2 := zCls_g hc f1 g1
    obtain ⟨t1, t2⟩ := zthrow C2
    refine ⟨_, ?_, t1, zfx_mono (zfx_tr (zfr_fx f1 (by omega) (by omega)) t2) (Nat.le_refl _) (Nat.le_refl _) (by omega) (by omega)⟩
    simp (disch := exact znw_u) only [zc_74, zs_74_0, zs_74_1, zs_74_4, zs_74_5, zs_74_6, zs_74_9, zs_74_11, zs_74_14, zs_74_15, zs_74_18, zs_74_19, zs_74_20, zs_74_23, zs_74_25, zs_74_28, zs_74_39, q1, zECc, zrc_1, zf_1_0, zp_1_0, zp_1_0n, zf_1_1, zp_1_1, zf_1_2, zp_1_2, zp_1_2n, zf_1_3, zp_1_3, zp_1_3n, zf_1_4, zp_1_40, zp_1_41, zf_1_5, zp_1_5, zp_1_5n, zf_1_6, zp_1_6, zp_1_6n, zf_1_7, zp_1_7, zp_1_7n, zf_1_8, zp_1_8, zp_1_8n, zf_1_9, zp_1_9, zp_1_9n, zf_1_10, zp_1_10, zp_1_10n, zf_1_11, zp_1_11, zp_1_11n, zf_1_12, zp_1_12, zp_1_12n, zGau_rc hg, e1, if_pos c3, zbk_v, zts_s, zext_of]
theorem d_73 (hc : zCls h m w) (hl : (ycur w).1.length < 6) : zcall zP sv (d + 2) 73 [.ref m] h = some (.inl none, h) := by
  have q1 := zCls_0 hc
  obtain ⟨_, _, ⟨S, s1, s2⟩, _⟩ := hc
  have hS : S.1.length = (ycur w).1.length := s2.2.1.1
  have g1 : nI S.1.length < nI 6 := nI_lt (by omega) (by decide)
  have e1 : zcall zP sv (d + 1) 169 [.ref (m + 3)] h = some (.inl (some (.int (nI S.1.length))), h) := by
    rw [zc_169, zs_169_0, zs_169_1, s1.1, zf_3_1, zs_169_4]
  simp (disch := exact znw_u) only [zc_73, zs_73_0, zs_73_1, zs_73_4, zs_73_7, zs_73_9, zs_73_12, zs_73_23, q1, zECc, zrc_1, zf_1_0, zp_1_0, zp_1_0n, zf_1_1, zp_1_1, zf_1_2, zp_1_2, zp_1_2n, zf_1_3, zp_1_3, zp_1_3n, zf_1_4, zp_1_40, zp_1_41, zf_1_5, zp_1_5, zp_1_5n, zf_1_6, zp_1_6, zp_1_6n, zf_1_7, zp_1_7, zp_1_7n, zf_1_8, zp_1_8, zp_1_8n, zf_1_9, zp_1_9, zp_1_9n, zf_1_10, zp_1_10, zp_1_10n, zf_1_11, zp_1_11, zp_1_11n, zf_1_12, zp_1_12, zp_1_12n, zSta_rc s1, e1, if_pos g1, zbk_v, zts_s]
theorem d_73n (hc : zCls h m w) (hl : (ycur w).1.length = 6) : zcall zP sv (d + 2) 73 [.ref m] h = some (.inr 0, zext h [(0, [])] 6) := by
  have q1 := zCls_0 hc
  obtain ⟨_, _, ⟨S, s1, s2⟩, _⟩ := hc
  have hS : S.1.length = (ycur w).1.length := s2.2.1.1
  have g1 : ¬ nI S.1.length < nI 6 := nI_nlt (by omega) (by omega)
  have e1 : zcall zP sv (d + 1) 169 [.ref (m + 3)] h = some (.inl (some (.int (nI S.1.length))), h) := by
    rw [zc_169, zs_169_0, zs_169_1, s1.1, zf_3_1, zs_169_4]
  simp (disch := exact znw_u) only [zc_73, zs_73_0, zs_73_1, zs_73_4, zs_73_7, zs_73_9, zs_73_12, zs_73_23, q1, zECc, zrc_1, zf_1_0, zp_1_0, zp_1_0n, zf_1_1, zp_1_1, zf_1_2, zp_1_2, zp_1_2n, zf_1_3, zp_1_3, zp_1_3n, zf_1_4, zp_1_40, zp_1_41, zf_1_5, zp_1_5, zp_1_5n, zf_1_6, zp_1_6, zp_1_6n, zf_1_7, zp_1_7, zp_1_7n, zf_1_8, zp_1_8, zp_1_8n, zf_1_9, zp_1_9, zp_1_9n, zf_1_10, zp_1_10, zp_1_10n, zf_1_11, zp_1_11, zp_1_11n, zf_1_12, zp_1_12, zp_1_12n, zSta_rc s1, e1, if_neg g1, zbk_v, zts_s, zext_of]
/-- a fitting term of a work tree becomes one more formula: history.remember, formulaFrom, append (as the calls end) -/
theorem d_app {a ma : Nat} {ns : List yN} {x : Int32} {t : yT} (hc : zCls h m w) (ht : zTre h a ma ns) (hw : ywf ns) (hn : ns.length ≤ 124) (hd : m + 85 ≤ a ∨ a + 9 ≤ m + 78 ) (hb : a + 9 ≤ h.2.1) (hd2 : m + 45 ≤ a) (hx : ych ns.length x) (hxt : ygt (ytm ns) x = t) (hok : ytok t) (hl : (ycur w).1.length < 6) : ∃ h1 h2 h3, zcall zP sv (d + 45) 132 [.ref (m + 11), .ref (m + 3)] h = some (.inl none, h1) ∧ (∀ X, zrc (h.1 (m + 11)) 5 X = X) ∧ h1.1 m = zECc m w.2.1 (yb w.2.2.1) ∧ zcall zP sv (d + 45) 75 [.ref m, .ref a, .int x] h1 = some (.inl (some (.ref h.2.1)), h2) ∧ h2.1 m = zECc m w.2.1 (yb w.2.2.1) ∧ (∀ X, zrc (h2.1 (m + 3)) 3 X = X) ∧ zcall zP sv (d + 45) 174 [.ref (m + 3), .ref h.2.1] h2 = some (.inl (some (.int (nI (ycur w).1.length))), h3) ∧ zCls h3 m (ysc (yrec w) ((ycur w).1 ++ [t], (ycur w).2)) ∧ zfx m (m + 119) 9 134 h h3 ∧ zfr (m + 11) (m + 45) h h1 := by
  have c0 := hc.1
  obtain ⟨h1, e1, C1, f1⟩ := d_132E (sv := sv) (d := d + 41) hc
  have ht1 := zTre_fr ht f1 (by omega)
  obtain ⟨h2, e2, C2, fx2, T2, s2⟩ := d_75E (sv := sv) (d := d) (t := t) C1 ht1 hw hn hd (by rw [f1.2]; exact hb) hx hxt (ytw_sz hok.1) hok.2.1 (by have := hok.2.2; omega)
  rw [f1.2] at e2 T2 s2
  obtain ⟨S, s1, s2'⟩ := C2.2.2.1
  have hS : S.1.length = (ycur w).1.length := s2'.2.1.1
  obtain ⟨h3, e3, w3, f3⟩ := d_174 (sv := sv) (d := d + 43) (b := h.2.1) s1 (by omega) (zTre_k6 T2) (by omega)
  rw [hS] at e3
  have k3 := zkp_fr (m := m) f3 (by omega)
  have T3 := zTre_cg T2 (zcg_fr f3 (by omega))
  have b3S := s2'.2.2
  have hA3 : zAS h3 m (S.1 ++ [h.2.1], S.2) ((ycur w).1 ++ [t], (ycur w).2) := by
    refine ⟨s2'.1, zFs_app (zFs_kp s2'.2.1 k3) ⟨c0, by rw [f3.2, s2]; exact Nat.le_refl _, T3⟩, ?_, fun u hu => ?_, b3S.2.2⟩
    · rw [List.length_append]
      show (ycur w).1.length + 1 ≤ 6
      omega
    · rcases List.mem_append.mp hu with g | g
      · exact b3S.2.1 u g
      · rw [List.mem_singleton.mp g]
        exact hok
  refine ⟨h1, h2, h3, e1, zthr_his hc, zCls_0 (w := yrec w) C1, e2, zCls_0 (w := yrec w) C2, fun X => zSta_rc s1, e3, zCls_cur C2 f3 w3 hA3, zfx_mono (zfx_tr (zfr_fx f1 (by omega) (by omega)) (zfx_tr (zfx_mono fx2 (by omega) (by omega) (Nat.le_refl _) (Nat.le_refl _)) (zfr_fx f3 (by omega) (by omega)))) (Nat.le_refl _) (Nat.le_refl _) (by omega) (by omega), f1⟩
end ZEB

def yas : Option yT → Nat
  | none => 0
  | some t => ysz t
theorem ypa_sz {cs : List Int32} : ∀ (f m : Nat) (a : Option yT) (op pos : Nat), pos ≤ (ypa cs f m a op pos).2 ∧ ∀ u, (ypa cs f m a op pos).1 = some u → ysz u + pos ≤ (ypa cs f m a op pos).2 + yas a
  | 0, m, a, op, pos => ⟨Nat.le_refl _, fun u h => by cases h⟩
  | f + 1, m, a, op, pos => by
    have ih := ypa_sz (cs := cs) f
    by_cases h0 : m = 0
    · subst h0
      rw [ypa_0]
      have i1 := ih 2 none op pos
      have i2 := ih 1 (ypa cs f 2 none op pos).1 op (ypa cs f 2 none op pos).2
      refine ⟨by omega, fun u hu => ?_⟩
      have := i2.2 u hu
      cases hr : (ypa cs f 2 none op pos).1 with
      | none =>
        rw [hr] at this i2
        have : yas none = 0 := rfl
        omega
      | some v =>
        rw [hr] at this
        have h3 := i1.2 v hr
        have : yas (some v) = ysz v := rfl
        have : yas none = 0 := rfl
        omega
    · by_cases h1 : m = 1
      · subst h1
        cases a with
        | none => rw [ypa_1n]; exact ⟨Nat.le_refl _, fun u h => by cases h⟩
        | some t =>
          rw [ypa_1s]
          split
          · have i1 := ih 2 none op (pos + 1)
            have i2 := ih 1 ((ypa cs f 2 none op (pos + 1)).1.map (fun u => ymk (ycat cs pos) 0 t u)) op (ypa cs f 2 none op (pos + 1)).2
            refine ⟨by omega, fun u hu => ?_⟩
            have := i2.2 u hu
            cases hr : (ypa cs f 2 none op (pos + 1)).1 with
            | none =>
              rw [hr] at this
              have e : yas (Option.map (fun u => ymk (ycat cs pos) 0 t u) none) = 0 := rfl
              have e2 : yas (some t) = ysz t := rfl
              omega
            | some v =>
              rw [hr] at this
              have h3 := i1.2 v hr
              have e : yas (Option.map (fun u => ymk (ycat cs pos) 0 t u) (some v)) = ysz t + ysz v + 1 := rfl
              have e2 : yas (some t) = ysz t := rfl
              have e3 : yas none = 0 := rfl
              omega
          · refine ⟨Nat.le_refl _, fun u hu => ?_⟩
            injection hu with hu
            subst hu
            show ysz t + pos ≤ pos + ysz t
            omega
      · by_cases h2 : m = 2
        · subst h2
          rw [ypa_2]
          have i1 := ih 4 none op pos
          have i2 := ih 3 (ypa cs f 4 none op pos).1 op (ypa cs f 4 none op pos).2
          refine ⟨by omega, fun u hu => ?_⟩
          have := i2.2 u hu
          cases hr : (ypa cs f 4 none op pos).1 with
          | none =>
            rw [hr] at this i2
            have : yas none = 0 := rfl
            omega
          | some v =>
            rw [hr] at this
            have h3 := i1.2 v hr
            have : yas (some v) = ysz v := rfl
            have : yas none = 0 := rfl
            omega
        · by_cases h3 : m = 3
          · subst h3
            cases a with
            | none => rw [ypa_3n]; exact ⟨Nat.le_refl _, fun u h => by cases h⟩
            | some t =>
              rw [ypa_3s]
              split
              · have i1 := ih 4 none op (pos + 1)
                have i2 := ih 3 ((ypa cs f 4 none op (pos + 1)).1.map (fun u => ymk (ycat cs pos) 0 t u)) op (ypa cs f 4 none op (pos + 1)).2
                refine ⟨by omega, fun u hu => ?_⟩
                have := i2.2 u hu
                cases hr : (ypa cs f 4 none op (pos + 1)).1 with
                | none =>
                  rw [hr] at this
                  have e : yas (Option.map (fun u => ymk (ycat cs pos) 0 t u) none) = 0 := rfl
                  have e2 : yas (some t) = ysz t := rfl
                  omega
                | some v =>
                  rw [hr] at this
                  have h3 := i1.2 v hr
                  have e : yas (Option.map (fun u => ymk (ycat cs pos) 0 t u) (some v)) = ysz t + ysz v + 1 := rfl
                  have e2 : yas (some t) = ysz t := rfl
                  have e3 : yas none = 0 := rfl
                  omega
              · refine ⟨Nat.le_refl _, fun u hu => ?_⟩
                injection hu with hu
                subst hu
                show ysz t + pos ≤ pos + ysz t
                omega
          · have e4 : ypa cs (f + 1) m a op pos = ((ypu cs f op (pos + yng cs pos 6)).1.map (ywr (yng cs pos 6)), (ypu cs f op (pos + yng cs pos 6)).2) := by
              conv => lhs; unfold ypa
              rw [if_neg h0, if_neg h1, if_neg h2, if_neg h3]
              rfl
            rw [e4]
            have iu : ∀ p, p ≤ (ypu cs f op p).2 ∧ ∀ u, (ypu cs f op p).1 = some u → ysz u + p ≤ (ypu cs f op p).2 := fun p => by
              unfold ypu
              split
              · have i1 := ih 0 none (op + 1) (p + 1)
                split
                · refine ⟨by show p ≤ (ypa cs f 0 none (op + 1) (p + 1)).2 + 1; omega, fun u hu => ?_⟩
                  have := i1.2 u hu
                  have e3 : yas none = 0 := rfl
                  show ysz u + p ≤ (ypa cs f 0 none (op + 1) (p + 1)).2 + 1
                  omega
                · exact ⟨by show p ≤ (ypa cs f 0 none (op + 1) (p + 1)).2; omega, fun u hu => by cases hu⟩
              · split
                · refine ⟨Nat.le_succ _, fun u hu => ?_⟩
                  injection hu with hu
                  subst hu
                  show 0 + 0 + 1 + p ≤ p + 1
                  omega
                · split
                  · unfold ynum2
                    split
                    · refine ⟨by show p ≤ p + 2; omega, fun u hu => ?_⟩
                      injection hu with hu
                      subst hu
                      show 1 + p ≤ p + 2
                      omega
                    · refine ⟨by show p ≤ p + 1; omega, fun u hu => ?_⟩
                      injection hu with hu
                      subst hu
                      show 1 + p ≤ p + 1
                      omega
                  · exact ⟨Nat.le_refl _, fun u hu => by cases hu⟩
            have i1 := iu (pos + yng cs pos 6)
            have hwr : ∀ n t, ysz (ywr n t) = ysz t + n := fun n => by
              induction n with
              | zero => exact fun t => rfl
              | succ n ih2 =>
                intro t
                show ysz (ywr n (ymk (nI 110) 0 t .leaf)) = _
                rw [ih2]
                show ysz t + 0 + 1 + n = _
                omega
            refine ⟨by show pos ≤ (ypu cs f op (pos + yng cs pos 6)).2; omega, fun u hu => ?_⟩
            have hu' : (ypu cs f op (pos + yng cs pos 6)).1.map (ywr (yng cs pos 6)) = some u := hu
            cases hr : (ypu cs f op (pos + yng cs pos 6)).1 with
            | none => rw [hr] at hu'; cases hu'
            | some v =>
              rw [hr] at hu'
              injection hu' with hu'
              subst hu'
              have := i1.2 v hr
              rw [hwr]
              show ysz v + yng cs pos 6 + pos ≤ (ypu cs f op (pos + yng cs pos 6)).2 + yas a
              omega
theorem ypa_tw {cs : List Int32} : ∀ (f m : Nat) (a : Option yT) (op pos : Nat), (∀ t, a = some t → ytw t = true) → ∀ u, (ypa cs f m a op pos).1 = some u → ytw u = true
  | 0, m, a, op, pos => fun _ u h => by cases h
  | f + 1, m, a, op, pos => by
    have ih := ypa_tw (cs := cs) f
    have hn : ∀ t : yT, (none : Option yT) = some t → ytw t = true := fun t h => by cases h
    intro ha
    by_cases h0 : m = 0
    · subst h0
      rw [ypa_0]
      exact ih 1 _ _ _ (ih 2 none op pos hn)
    · by_cases h1 : m = 1
      · subst h1
        cases a with
        | none => rw [ypa_1n]; exact fun u h => by cases h
        | some t =>
          rw [ypa_1s]
          split
          · rename_i g
            refine ih 1 _ _ _ (fun v hv => ?_)
            cases hr : (ypa cs f 2 none op (pos + 1)).1 with
            | none => rw [hr] at hv; cases hv
            | some x =>
              rw [hr] at hv
              injection hv with hv
              subst hv
              exact ytw_o (by rcases g with g | g <;> rw [g] <;> decide +kernel) (ha t rfl) (ih 2 none op (pos + 1) hn x hr)
          · exact fun u hu => by
              injection hu with hu
              subst hu
              exact ha t rfl
      · by_cases h2 : m = 2
        · subst h2
          rw [ypa_2]
          exact ih 3 _ _ _ (ih 4 none op pos hn)
        · by_cases h3 : m = 3
          · subst h3
            cases a with
            | none => rw [ypa_3n]; exact fun u h => by cases h
            | some t =>
              rw [ypa_3s]
              split
              · rename_i g
                refine ih 3 _ _ _ (fun v hv => ?_)
                cases hr : (ypa cs f 4 none op (pos + 1)).1 with
                | none => rw [hr] at hv; cases hv
                | some x =>
                  rw [hr] at hv
                  injection hv with hv
                  subst hv
                  exact ytw_o (by rw [g]; decide +kernel) (ha t rfl) (ih 4 none op (pos + 1) hn x hr)
              · exact fun u hu => by
                  injection hu with hu
                  subst hu
                  exact ha t rfl
          · have e4 : ypa cs (f + 1) m a op pos = ((ypu cs f op (pos + yng cs pos 6)).1.map (ywr (yng cs pos 6)), (ypu cs f op (pos + yng cs pos 6)).2) := by
              conv => lhs; unfold ypa
              rw [if_neg h0, if_neg h1, if_neg h2, if_neg h3]
              rfl
            rw [e4]
            have iu : ∀ p u, (ypu cs f op p).1 = some u → ytw u = true := fun p u => by
              unfold ypu
              split
              · split
                · exact ih 0 none (op + 1) (p + 1) hn u
                · exact fun hu => by cases hu
              · split
                · rename_i g
                  intro hu
                  injection hu with hu
                  subst hu
                  exact ytw_v g
                · split
                  · unfold ynum2
                    split
                    · intro hu
                      injection hu with hu
                      subst hu
                      exact ytw_c
                    · intro hu
                      injection hu with hu
                      subst hu
                      exact ytw_c
                  · exact fun hu => by cases hu
            have hwr : ∀ n t, ytw t = true → ytw (ywr n t) = true := fun n => by
              induction n with
              | zero => exact fun t h => h
              | succ n ih2 => exact fun t h => ih2 _ (ytw_n h)
            intro u hu
            have hu' : (ypu cs f op (pos + yng cs pos 6)).1.map (ywr (yng cs pos 6)) = some u := hu
            cases hr : (ypu cs f op (pos + yng cs pos 6)).1 with
            | none => rw [hr] at hu'; cases hu'
            | some v =>
              rw [hr] at hu'
              injection hu' with hu'
              subst hu'
              exact hwr _ _ (iu _ v hr)
/-- the text as a formula, or none, and where reading stopped -/
def yadd (cs : List Int32) : Option yT × Nat := (if (ypa cs 4000 0 none 0 0).2 = cs.length then (ypa cs 4000 0 none 0 0).1 else none, (ypa cs 4000 0 none 0 0).2)
theorem yadd_ok {cs : List Int32} {t : yT} (h : (yadd cs).1 = some t) : ytw t = true ∧ ysz t ≤ cs.length ∧ (yadd cs).2 = cs.length := by
  have h' : (if (ypa cs 4000 0 none 0 0).2 = cs.length then (ypa cs 4000 0 none 0 0).1 else none) = some t := h
  split at h'
  · rename_i g
    have := (ypa_sz (cs := cs) 4000 0 none 0 0).2 t h'
    have e : yas none = 0 := rfl
    exact ⟨ypa_tw 4000 0 none 0 0 (fun t h => by cases h) t h', by omega, g⟩
  · cases h'
section ZEC
variable {sv : Nat → Value} {d : Nat} {h : zH}
theorem d_152 {p pos : Nat} {cs : List Int32} {ns : List yN} (hp : zPar h p cs pos ns) : ∃ h' ns' x, zcall zP sv (d + 42) 152 [.ref p] h = some (.inl (some (.int x)), h') ∧ zPar h' p cs (yadd cs).2 ns' ∧ ywf ns' ∧ ns'.length ≤ 60 ∧ (yadd cs).2 ≤ cs.length ∧ zfr p (p + 12) h h' ∧ yis1 ns' x (yadd cs).1 := by
  have h0 := hp.1
  have h60 := hp.2.1.2.2.1
  obtain ⟨h1, e1, w1, f1⟩ := d_190 (sv := sv) (d := d + 40) hp.2.2
  have p1 := zPar_tree hp f1 w1
  have p2 := zPar_pos (pos' := 0) p1
  have a0 := p1.1
  have f2 : zfr p (p + 12) h1 (zup h1 p (7, [.ref (p + 1), .ref (p + 3), .int (nI 0)])) := zfr_up (by omega) (by omega)
  obtain ⟨h3, e, x, e3, q1, q2, q3, q4, f3, q5⟩ := (d_par (sv := sv) (p := p) (cs := cs) 4000).1 0 0 _ [] (d + 41) (by decide) (by omega) (by omega) p2 ywf_nil (Nat.zero_le _) (Nat.zero_le _)
  rw [nI_0] at e3 p2 f2 f3
  have b0 := q1.1
  have e4 := d_138 (sv := sv) (d := d + 40) q1.2.1
  rw [List.nil_append] at q1 q3 q5
  have hz : zTre h3 (p + 3) 60 e := q1.2.2
  have hzl := (zTre_lt hz).2
  have ff := zfr_tr (zfr_tr (zfr_mono f1 (show p ≤ p + 3 by omega) (show p + 3 + 9 ≤ p + 12 by omega)) f2) f3
  by_cases hc : (ypa cs 4000 0 none 0 0).2 = cs.length
  · refine ⟨h3, e, x, ?_, q1, q3, hzl, q4, ff, ?_⟩
    · simp (disch := exact znw_u) only [zc_152, zs_152_0, zs_152_1, zs_152_4, zs_152_7, zs_152_8, zs_152_9, zs_152_12, zs_152_13, zs_152_14, zs_152_17, zs_152_18, zs_152_19, zs_152_22, zs_152_23, zs_152_26, zs_152_29, zs_152_32, zs_152_33, zs_152_36, zs_152_37, h0, a0, zrc_7, zf_7_0, zp_7_0, zp_7_0n, zf_7_1, zp_7_1, zp_7_1n, zf_7_2, zp_7_2, zTre_rc hp.2.2, e1, zPar_rc p2, e3, b0, zInp_rc q1.2.1, e4, hc, zbk_v, zts_s, zts_n, ↓reduceIte]
    · show yis1 e x (if (ypa cs 4000 0 none 0 0).2 = cs.length then (ypa cs 4000 0 none 0 0).1 else none)
      rw [if_pos hc]
      exact q5
  · have g1 : ¬ nI (ypa cs 4000 0 none 0 0).2 = nI cs.length := fun g => hc ((nI_eq (by omega) (by omega)).mp g)
    refine ⟨h3, e, -1, ?_, q1, q3, hzl, q4, ff, ?_⟩
    · simp (disch := exact znw_u) only [zc_152, zs_152_0, zs_152_1, zs_152_4, zs_152_7, zs_152_8, zs_152_9, zs_152_12, zs_152_13, zs_152_14, zs_152_17, zs_152_18, zs_152_19, zs_152_22, zs_152_23, zs_152_26, zs_152_29, zs_152_32, zs_152_33, zs_152_36, zs_152_37, h0, a0, zrc_7, zf_7_0, zp_7_0, zp_7_0n, zf_7_1, zp_7_1, zp_7_1n, zf_7_2, zp_7_2, zTre_rc hp.2.2, e1, zPar_rc p2, e3, b0, zInp_rc q1.2.1, e4, if_neg g1, zbk_v, zts_s, zts_n]
    · show yis1 e (-1) (if (ypa cs 4000 0 none 0 0).2 = cs.length then (ypa cs 4000 0 none 0 0).1 else none)
      rw [if_neg hc]
      rfl
end ZEC

def ythr (x : Nat) : zO := .inr x
/-- what addFormula does -/
def yaddF (w : yW) : zO × yW := match (yadd w.1).1 with
  | none => (.inr 1, yse (ysb w []) (nI (yadd w.1).2))
  | some t => if (ycur w).1.length = 6 then (.inr 0, ysb w []) else if ysz t ≤ 31 ∧ ydp t ≤ 8 then (.inl (some (.int (nI (ycur w).1.length))), ysc (yrec (ysb w [])) ((ycur w).1 ++ [t], (ycur w).2)) else (.inr 3, ysb w [])
theorem yidx_bd {os : List yN} : ∀ (n : Nat) (ns : List yN), ns.length = n → yBd n ns := by
  intro n
  induction n with
  | zero =>
    intro ns hn
    rw [List.length_eq_zero_iff.mp hn]
    exact yBd_nil
  | succ n ih =>
    intro ns hn
    have h0 : ns ≠ [] := by intro h1; rw [h1] at hn; cases hn
    have i1 := ih ns.dropLast (by rw [List.length_dropLast]; omega)
    rw [← List.dropLast_concat_getLast h0]
    have hx : ∀ x, ydp (ygt (ytm ns.dropLast) x) ≤ n := fun x => by
      unfold ygt
      split
      · exact Nat.zero_le _
      · rw [List.getD_eq_getElem?_getD]
        cases hc : (ytm ns.dropLast)[x.toNatClampNeg]? with
        | none => exact Nat.zero_le _
        | some t => exact i1 _ t hc
    refine yBd_snoc (fun j t ht => by have := i1 j t ht; omega) ?_
    rw [ydp_mk]
    have := hx (ns.getLast h0).2.2.1
    have := hx (ns.getLast h0).2.2.2
    omega
section ZED
variable {sv : Nat → Value} {d : Nat} {h : zH} {m : Nat} {w : yW}
theorem d_149 {p pos : Nat} {cs : List Int32} {ns : List yN} (hp : zPar h p cs pos ns) : zcall zP sv (d + 1) 149 [.ref p] h = some (.inl (some (.ref (p + 1))), h) := by
  simp only [zc_149, zs_149_0, zs_149_1, zs_149_4, hp.1, zrc_7, zf_7_0, zp_7_0, zp_7_0n, zf_7_1, zp_7_1, zp_7_1n, zf_7_2, zp_7_2]
theorem d_150 {p pos : Nat} {cs : List Int32} {ns : List yN} (hp : zPar h p cs pos ns) : zcall zP sv (d + 1) 150 [.ref p] h = some (.inl (some (.ref (p + 3))), h) := by
  simp only [zc_150, zs_150_0, zs_150_1, zs_150_4, hp.1, zrc_7, zf_7_0, zp_7_0, zp_7_0n, zf_7_1, zp_7_1, zp_7_1n, zf_7_2, zp_7_2]
theorem d_151 {p pos : Nat} {cs : List Int32} {ns : List yN} (hp : zPar h p cs pos ns) : zcall zP sv (d + 1) 151 [.ref p] h = some (.inl (some (.int (nI pos))), h) := by
  simp only [zc_151, zs_151_0, zs_151_1, zs_151_4, hp.1, zrc_7, zf_7_0, zp_7_0, zp_7_0n, zf_7_1, zp_7_1, zp_7_1n, zf_7_2, zp_7_2]
theorem d_26 (hc : zCls h m w) : zEnd h m (zcall zP sv (d + 47) 26 [.ref m] h) 9 134 (yaddF w).1 (yaddF w).2 := by
  have q1 := zCls_0 hc
  have hc' := hc
  have c0 := hc.1
  obtain ⟨pos, ns0, p1⟩ := hc.2.2.2.2.2.1
  obtain ⟨h1, ns, x, e1, w1, w2, w3, w4, f1, w5⟩ := d_152 (sv := sv) (d := d + 4) p1
  have C1 := zCls_par hc' (zfr_mono f1 (by omega) (by omega)) w1
  have q2 : h1.1 m = zECc m w.2.1 (yb w.2.2.1) := by rw [f1.1 m (by omega)]; exact q1
  obtain ⟨h2, e2, i2, f2⟩ := d_140 (sv := sv) (d := d + 45) w1.2.1
  have p2 : zPar h2 (m + 63) [] (yadd w.1).2 ns := ⟨by rw [f2.1 _ (by omega), w1.1], i2, zTre_fr w1.2.2 f2 (by omega)⟩
  have C2 := zCls_par C1 (zfr_mono f2 (by omega) (by omega)) p2
  have q3 : h2.1 m = zECc m w.2.1 (yb w.2.2.1) := by rw [f2.1 m (by omega)]; exact q2
  have f12 : zfr (m + 63) (m + 75) h h2 := zfr_tr (zfr_mono f1 (by omega) (by omega)) (zfr_mono f2 (by omega) (by omega))
  have e149 := d_149 (sv := sv) (d := d + 45) w1
  have e150 := d_150 (sv := sv) (d := d + 45) p2
  have q5 : ∀ X : zR, zrc (h2.1 m) 1 X = X := fun X => by rw [q3]; exact zrc_k
  unfold yaddF
  cases hr : (yadd w.1).1 with
  | none =>
    dsimp only
    rw [hr] at w5
    have hx : x = -1 := w5
    subst hx
    have e151 := d_151 (sv := sv) (d := d + 45) p2
    have C3 := zCls_ec (e := nI (yadd w.1).2) (b := w.2.2.1) C2
    obtain ⟨t1, t2⟩ := zthrow C3
    refine ⟨_, ?_, t1, zfx_mono (zfx_tr (zfx_tr (zfr_fx f12 (by omega) (by omega)) (zfr_fx (zfr_up (a := m) (lo := m) (hi := m + 1) (by omega) (by omega)) (by omega) (by omega))) t2) (Nat.le_refl _) (Nat.le_refl _) (by omega) (by omega)⟩
    simp (disch := exact znw_u) only [zc_26, zs_26_0, zs_26_1, zs_26_4, zs_26_7, zs_26_8, zs_26_9, zs_26_12, zs_26_15, zs_26_18, zs_26_19, zs_26_20, zs_26_23, zs_26_24, zs_26_25, zs_26_28, zs_26_31, zs_26_34, zs_26_44, zs_26_45, zs_26_48, zs_26_49, zs_26_50, zs_26_53, zs_26_56, zs_26_57, zs_26_60, zs_26_61, zs_26_64, zs_26_65, zs_26_68, zs_26_71, zs_26_72, zs_26_75, zs_26_76, zs_26_77, zs_26_80, zs_26_83, zs_26_84, zs_26_87, zs_26_90, q1, q2, q3, zECc, zrc_1, zf_1_0, zp_1_0, zp_1_0n, zf_1_1, zp_1_1, zf_1_2, zp_1_2, zp_1_2n, zf_1_3, zp_1_3, zp_1_3n, zf_1_4, zp_1_40, zp_1_41, zf_1_5, zp_1_5, zp_1_5n, zf_1_6, zp_1_6, zp_1_6n, zf_1_7, zp_1_7, zp_1_7n, zf_1_8, zp_1_8, zp_1_8n, zf_1_9, zp_1_9, zp_1_9n, zf_1_10, zp_1_10, zp_1_10n, zf_1_11, zp_1_11, zp_1_11n, zf_1_12, zp_1_12, zp_1_12n, zPar_rc p1, e1, zPar_rc w1, e149, zInp_rc w1.2.1, e2, nI_m1e, zPar_rc p2, e151, zbk_v, zts_s, zts_n, zext_of, ↓reduceIte]
  | some t =>
    dsimp only
    rw [hr] at w5
    have ok := yadd_ok hr
    have h60 := w1.2.1.2.2.1
    have e0 : zcall zP sv (d + 47) 26 [.ref m] h = zrun zP sv (zcall zP sv (d + 46)) 26 44 [.val (.ref m), .val (.int x)] [] h2 := by
      simp (disch := exact znw_u) only [zc_26, zs_26_0, zs_26_1, zs_26_4, zs_26_7, zs_26_8, zs_26_9, zs_26_12, zs_26_15, zs_26_18, zs_26_19, zs_26_20, zs_26_23, zs_26_24, zs_26_25, zs_26_28, zs_26_31, zs_26_34, zs_26_45, zs_26_48, zs_26_49, zs_26_50, zs_26_53, zs_26_56, zs_26_57, zs_26_60, zs_26_61, zs_26_64, zs_26_65, zs_26_68, zs_26_71, zs_26_72, zs_26_75, zs_26_76, zs_26_77, zs_26_80, zs_26_83, zs_26_84, zs_26_87, zs_26_90, q1, q2, zECc, zrc_1, zf_1_0, zp_1_0, zp_1_0n, zf_1_1, zp_1_1, zf_1_2, zp_1_2, zp_1_2n, zf_1_3, zp_1_3, zp_1_3n, zf_1_4, zp_1_40, zp_1_41, zf_1_5, zp_1_5, zp_1_5n, zf_1_6, zp_1_6, zp_1_6n, zf_1_7, zp_1_7, zp_1_7n, zf_1_8, zp_1_8, zp_1_8n, zf_1_9, zp_1_9, zp_1_9n, zf_1_10, zp_1_10, zp_1_10n, zf_1_11, zp_1_11, zp_1_11n, zf_1_12, zp_1_12, zp_1_12n, zPar_rc p1, e1, zPar_rc w1, e149, zInp_rc w1.2.1, e2, if_neg w5.1, zbk_v, zts_s, zts_n]
    rw [e0]
    by_cases hl : (ycur w).1.length = 6
    · rw [if_pos hl]
      obtain ⟨t1, t2⟩ := zthrow C2
      refine ⟨_, ?_, t1, zfx_mono (zfx_tr (zfr_fx f12 (by omega) (by omega)) t2) (Nat.le_refl _) (Nat.le_refl _) (by omega) (by omega)⟩
      have e3 := d_73n (sv := sv) (d := d + 44) C2 hl
      simp (disch := exact znw_u) only [zs_26_0, zs_26_1, zs_26_4, zs_26_7, zs_26_8, zs_26_9, zs_26_12, zs_26_15, zs_26_18, zs_26_19, zs_26_20, zs_26_23, zs_26_24, zs_26_25, zs_26_28, zs_26_31, zs_26_34, zs_26_44, zs_26_45, zs_26_48, zs_26_49, zs_26_50, zs_26_53, zs_26_56, zs_26_57, zs_26_60, zs_26_61, zs_26_64, zs_26_65, zs_26_68, zs_26_71, zs_26_72, zs_26_75, zs_26_76, zs_26_77, zs_26_80, zs_26_83, zs_26_84, zs_26_87, zs_26_90, q5, e3, zbk_x]
    · rw [if_neg hl]
      have hl6 : (ycur w).1.length ≤ 6 := by
        obtain ⟨S, s1, s2⟩ := hc'.2.2.1
        exact s2.2.2.1
      have e3 := d_73 (sv := sv) (d := d + 44) C2 (show (ycur w).1.length < 6 by omega)
      by_cases hf : ysz t ≤ 31 ∧ ydp t ≤ 8
      · rw [if_pos hf]
        obtain ⟨h3, e4, C3, f3⟩ := d_74E (sv := sv) (d := d + 41) (t := t) C2 p2.2.2 w2 (by omega) (by omega) w5.2.1 w5.2.2 (by omega) hf
        have ht3 := zTre_fr p2.2.2 f3 (by omega)
        obtain ⟨h4, h5, h6, e5, r5, q6, e6, q7, r7, e7, C6, f6, f4⟩ := d_app (sv := sv) (d := d + 1) (t := t) C3 ht3 w2 (by omega) (by omega) (by have := f3.2; rw [this, f12.2]; omega) (by omega) w5.2.1 w5.2.2 ⟨ok.1, hf⟩ (show (ycur w).1.length < 6 by omega)
        have q8 : h3.1 m = zECc m w.2.1 (yb w.2.2.1) := by rw [f3.1 m (by omega)]; exact q3
        have q9 : h4.1 m = zECc m w.2.1 (yb w.2.2.1) := q6
        have q10 : ∀ X : zR, zrc (h4.1 m) 1 X = X := fun X => by rw [q9]; exact zrc_k
        have q11 : ∀ X : zR, zrc (h3.1 m) 1 X = X := fun X => by rw [q8]; exact zrc_k
        have p4 := zPar_cg p2 (zcg_tr (zcg_fr f3 (by omega)) (zcg_fr f4 (by omega)))
        have e8 := d_150 (sv := sv) (d := d + 45) p4
        refine ⟨h6, ?_, C6, zfx_mono (zfx_tr (zfr_fx (zfr_tr (zfr_mono f12 (Nat.le_refl _) (by omega)) (zfr_mono f3 (by omega) (by omega)) : zfr (m + 63) (m + 85) h h3) (by omega) (by omega)) f6) (Nat.le_refl _) (Nat.le_refl _) (by omega) (by omega)⟩
        simp (disch := exact znw_u) only [zs_26_0, zs_26_1, zs_26_4, zs_26_7, zs_26_8, zs_26_9, zs_26_12, zs_26_15, zs_26_18, zs_26_19, zs_26_20, zs_26_23, zs_26_24, zs_26_25, zs_26_28, zs_26_31, zs_26_34, zs_26_44, zs_26_45, zs_26_48, zs_26_49, zs_26_50, zs_26_53, zs_26_56, zs_26_57, zs_26_60, zs_26_61, zs_26_64, zs_26_65, zs_26_68, zs_26_71, zs_26_72, zs_26_75, zs_26_76, zs_26_77, zs_26_80, zs_26_83, zs_26_84, zs_26_87, zs_26_90, q5, e3, q3, q8, q9, q10, q11, zECc, zrc_1, zf_1_0, zp_1_0, zp_1_0n, zf_1_1, zp_1_1, zf_1_2, zp_1_2, zp_1_2n, zf_1_3, zp_1_3, zp_1_3n, zf_1_4, zp_1_40, zp_1_41, zf_1_5, zp_1_5, zp_1_5n, zf_1_6, zp_1_6, zp_1_6n, zf_1_7, zp_1_7, zp_1_7n, zf_1_8, zp_1_8, zp_1_8n, zf_1_9, zp_1_9, zp_1_9n, zf_1_10, zp_1_10, zp_1_10n, zf_1_11, zp_1_11, zp_1_11n, zf_1_12, zp_1_12, zp_1_12n, zPar_rc p2, e150, e4, r5, e5, zPar_rc p4, e8, e6, r7, e7, zbk_v, zbk_x, zts_s, zts_n]
        rfl
      · rw [if_neg hf]
        obtain ⟨h3, e4, C3, f3⟩ := d_74n (sv := sv) (d := d + 41) (t := t) C2 p2.2.2 w2 (by omega) (by omega) w5.2.1 w5.2.2 (by omega) hf
        refine ⟨h3, ?_, C3, zfx_mono (zfx_tr (zfr_fx f12 (by omega) (by omega)) f3) (Nat.le_refl _) (Nat.le_refl _) (by omega) (by omega)⟩
        simp (disch := exact znw_u) only [zs_26_0, zs_26_1, zs_26_4, zs_26_7, zs_26_8, zs_26_9, zs_26_12, zs_26_15, zs_26_18, zs_26_19, zs_26_20, zs_26_23, zs_26_24, zs_26_25, zs_26_28, zs_26_31, zs_26_34, zs_26_44, zs_26_45, zs_26_48, zs_26_49, zs_26_50, zs_26_53, zs_26_56, zs_26_57, zs_26_60, zs_26_61, zs_26_64, zs_26_65, zs_26_68, zs_26_71, zs_26_72, zs_26_75, zs_26_76, zs_26_77, zs_26_80, zs_26_83, zs_26_84, zs_26_87, zs_26_90, q5, e3, q3, zECc, zrc_1, zf_1_0, zp_1_0, zp_1_0n, zf_1_1, zp_1_1, zf_1_2, zp_1_2, zp_1_2n, zf_1_3, zp_1_3, zp_1_3n, zf_1_4, zp_1_40, zp_1_41, zf_1_5, zp_1_5, zp_1_5n, zf_1_6, zp_1_6, zp_1_6n, zf_1_7, zp_1_7, zp_1_7n, zf_1_8, zp_1_8, zp_1_8n, zf_1_9, zp_1_9, zp_1_9n, zf_1_10, zp_1_10, zp_1_10n, zf_1_11, zp_1_11, zp_1_11n, zf_1_12, zp_1_12, zp_1_12n, zPar_rc p2, e150, e4, zbk_v, zbk_x, zts_s, zts_n]
theorem yroot_sub {t : yT} (h : 0 < ysz t) : nI (ypo 0 t).length - nI 1 = nI (ysz t - 1) := by
  rw [ypo_len]
  conv => lhs; rw [show ysz t = ysz t - 1 + 1 by omega, ← nI_add, Int32.add_sub_cancel]
theorem d_29n {x c : Int32} (hc : zCls h m w) (hx : x < 0 ∨ ¬ x < nI (ycur w).1.length) : zEnd h m (zcall zP sv (d + 48) 29 [.ref m, .int x, .int c] h) 1 6 (.inr 2) w := by
  obtain ⟨t1, t2⟩ := zthrow hc
  refine ⟨_, ?_, t1, t2⟩
  have q1 := zCls_0 hc
  have e1 := d_70n (sv := sv) (d := d + 45) hc hx
  have q5 : ∀ X : zR, zrc (h.1 m) 1 X = X := fun X => by rw [q1]; exact zrc_k
  simp (disch := exact znw_u) only [zc_29, zs_29_0, zs_29_1, zs_29_2, zs_29_5, zs_29_6, zs_29_7, zs_29_10, zs_29_11, zs_29_14, zs_29_15, zs_29_18, zs_29_19, zs_29_20, zs_29_21, zs_29_24, zs_29_27, zs_29_29, zs_29_30, zs_29_33, zs_29_34, zs_29_37, zs_29_39, zs_29_40, zs_29_43, zs_29_46, zs_29_48, zs_29_49, zs_29_50, zs_29_53, zs_29_55, zs_29_58, zs_29_59, zs_29_62, zs_29_63, zs_29_66, zs_29_69, zs_29_70, zs_29_73, zs_29_74, zs_29_75, zs_29_78, zs_29_80, zs_29_83, zs_29_86, q5, e1, zbk_x]
/-- what differentiate does to a formula that is there -/
def yderF (w : yW) (t : yT) (c : Int32) : zO × yW := if ylet c = false then (.inr 1, w) else if (ycur w).1.length = 6 then (.inr 0, w) else if ysz (ysim (yder c t)) ≤ 31 ∧ ydp (ysim (yder c t)) ≤ 8 then (.inl (some (.int (nI (ycur w).1.length))), ysc (yrec w) ((ycur w).1 ++ [ysim (yder c t)], (ycur w).2)) else (.inr 3, w)
theorem d_29 {i : Nat} {t : yT} {c : Int32} (hc : zCls h m w) (hi : (ycur w).1[i]? = some t) : zEnd h m (zcall zP sv (d + 48) 29 [.ref m, .int (nI i), .int c] h) 9 134 (yderF w t c).1 (yderF w t c).2 := by
  have q1 := zCls_0 hc
  have q5 : ∀ X : zR, zrc (h.1 m) 1 X = X := fun X => by rw [q1]; exact zrc_k
  have c0 := hc.1
  have cs := hc.2.2.2.2.2.2.1
  obtain ⟨a, e0, a1, a2, a3, a4⟩ := d_70k (sv := sv) (d := d + 45) hc hi
  unfold yderF
  cases hl : ylet c with
  | false =>
    rw [if_pos rfl]
    obtain ⟨t1, t2⟩ := zthrow hc
    refine ⟨_, ?_, t1, zfx_mono t2 (Nat.le_refl _) (Nat.le_refl _) (by omega) (by omega)⟩
    simp (disch := exact znw_u) only [zc_29, zs_29_0, zs_29_1, zs_29_2, zs_29_5, zs_29_6, zs_29_7, zs_29_10, zs_29_11, zs_29_14, zs_29_15, zs_29_18, zs_29_19, zs_29_20, zs_29_21, zs_29_24, zs_29_27, zs_29_29, zs_29_30, zs_29_33, zs_29_34, zs_29_37, zs_29_39, zs_29_40, zs_29_43, zs_29_46, zs_29_48, zs_29_49, zs_29_50, zs_29_53, zs_29_55, zs_29_58, zs_29_59, zs_29_62, zs_29_63, zs_29_66, zs_29_69, zs_29_70, zs_29_73, zs_29_74, zs_29_75, zs_29_78, zs_29_80, zs_29_83, zs_29_86, q5, e0, d_72n hl, zbk_v, zbk_x, zts_s]
  | true =>
    rw [if_neg (by decide)]
    by_cases hn : (ycur w).1.length = 6
    · rw [if_pos hn]
      obtain ⟨t1, t2⟩ := zthrow hc
      have e3 := d_73n (sv := sv) (d := d + 45) hc hn
      refine ⟨_, ?_, t1, zfx_mono t2 (Nat.le_refl _) (Nat.le_refl _) (by omega) (by omega)⟩
      simp (disch := exact znw_u) only [zc_29, zs_29_0, zs_29_1, zs_29_2, zs_29_5, zs_29_6, zs_29_7, zs_29_10, zs_29_11, zs_29_14, zs_29_15, zs_29_18, zs_29_19, zs_29_20, zs_29_21, zs_29_24, zs_29_27, zs_29_29, zs_29_30, zs_29_33, zs_29_34, zs_29_37, zs_29_39, zs_29_40, zs_29_43, zs_29_46, zs_29_48, zs_29_49, zs_29_50, zs_29_53, zs_29_55, zs_29_58, zs_29_59, zs_29_62, zs_29_63, zs_29_66, zs_29_69, zs_29_70, zs_29_73, zs_29_74, zs_29_75, zs_29_78, zs_29_80, zs_29_83, zs_29_86, q5, e0, d_72 hl, e3, zbk_v, zbk_x, zts_s, zts_n]
    · rw [if_neg hn]
      have hl6 : (ycur w).1.length ≤ 6 := by
        obtain ⟨S, s1, s2⟩ := hc.2.2.1
        exact s2.2.2.1
      have e3 := d_73 (sv := sv) (d := d + 45) hc (show (ycur w).1.length < 6 by omega)
      have hsz := a4.2.1
      have hdp := a4.2.2
      obtain ⟨f1, f2, f3, f4⟩ := yform a4.1 (by omega)
      obtain ⟨n1, b1⟩ := cs.1
      obtain ⟨P, b3⟩ := cs.2.2.1
      have hbd : yBd 8 (ypo 0 t) := yform_bd a4.1 (by omega) hdp
      obtain ⟨h1, os, P1, x, e1, o1, o2, oB, o3, o4, o5, o6, o7⟩ := d_93 (sv := sv) (d := d + 42) (c := c) f1 (by omega) (by omega) (show a + 9 ≤ m + 45 ∨ m + 45 + 9 ≤ a by omega) (show a + 9 ≤ m + 75 ∨ m + 75 + 3 ≤ a by omega) (by omega) a3 b1 b3 (B := 16) (fun j u hu => by
        have h8 := ydp_yder (c := c) u
        have h9 := hbd j u hu
        omega) (fun j u hu => by
        have h9 := hbd j u hu
        omega)
      rw [f3, f2] at o6
      have C1 := zCls_f2 hc o7 (by omega) (by omega) (by omega) (by omega) (by omega) (by omega) (zScr_ro cs o7 o3 o4)
      have cs1 := C1.2.2.2.2.2.2.1
      obtain ⟨n2, b2⟩ := cs1.2.1
      obtain ⟨h2, os2, P2, x2, e2, r1, r2, r3, r4, r5, r6, r7⟩ := d_95 (sv := sv) (d := d + 1) (rt := x) o2 o1 (show m + 45 + 9 ≤ m + 54 ∨ m + 54 + 9 ≤ m + 45 by omega) (by omega) (by omega) (fun y hy => by
        have h8 := ydp_ysim (ygt (ytm os) y)
        have h9 := yBd_x oB (by have := o2.1; omega) hy
        omega) o3 b2 o4 o5
      rw [o6] at r6
      have C2 := zCls_f2 C1 r7 (by omega) (by omega) (by omega) (by omega) (by omega) (by omega) (zScr_sm cs1 r7 r3 r4)
      have hds := ydp_ysim (yder c t)
      have hdd := ydp_yder (c := c) t
      have hw2 := ytw_ysim _ (ytw_yder (c := c) t a4.1)
      have s12 : h2.2 = h.2 := r7.2.trans o7.2
      have g12 : zfx m (m + 119) 0 0 h h2 := ⟨fun q _ p => (r7.1 q (by omega) (by omega)).trans (o7.1 q (by omega) (by omega)), by rw [s12]; exact Nat.le_refl _, by rw [s12]; exact Nat.le_refl _, by rw [s12]; exact Nat.le_refl _⟩
      have p1 : h1.1 m = zECc m w.2.1 (yb w.2.2.1) := zCls_0 C1
      have p2 : h2.1 m = zECc m w.2.1 (yb w.2.2.1) := zCls_0 C2
      have p3 : ∀ X : zR, zrc (h1.1 m) 1 X = X := fun X => by rw [p1]; exact zrc_k
      have p4 : ∀ X : zR, zrc (h2.1 m) 1 X = X := fun X => by rw [p2]; exact zrc_k
      by_cases hf : ysz (ysim (yder c t)) ≤ 31 ∧ ydp (ysim (yder c t)) ≤ 8
      · rw [if_pos hf]
        obtain ⟨h3, e4, C3, f3'⟩ := d_74E (sv := sv) (d := d + 42) (t := ysim (yder c t)) C2 r3 r2 (by omega) (by omega) r5 r6 (ysz_16 (by omega)) hf
        have ht3 := zTre_fr r3 f3' (by omega)
        obtain ⟨h4, h5, h6, e5, u5, q6, e6, q7, u7, e7, C6, f6, f4'⟩ := d_app (sv := sv) (d := d + 2) (t := ysim (yder c t)) C3 ht3 r2 (by omega) (by omega) (by rw [f3'.2, s12]; omega) (by omega) r5 r6 ⟨hw2, hf⟩ (show (ycur w).1.length < 6 by omega)
        have q8 : h3.1 m = zECc m w.2.1 (yb w.2.2.1) := zCls_0 C3
        have q10 : ∀ X : zR, zrc (h4.1 m) 1 X = X := fun X => by rw [q6]; exact zrc_k
        refine ⟨h6, ?_, C6, zfx_mono (zfx_tr g12 (zfx_tr (zfr_fx f3' (by omega) (by omega)) f6)) (Nat.le_refl _) (Nat.le_refl _) (by omega) (by omega)⟩
        simp (disch := exact znw_u) only [zc_29, zs_29_0, zs_29_1, zs_29_2, zs_29_5, zs_29_6, zs_29_7, zs_29_10, zs_29_11, zs_29_14, zs_29_15, zs_29_18, zs_29_19, zs_29_20, zs_29_21, zs_29_24, zs_29_27, zs_29_29, zs_29_30, zs_29_33, zs_29_34, zs_29_37, zs_29_39, zs_29_40, zs_29_43, zs_29_46, zs_29_48, zs_29_49, zs_29_50, zs_29_53, zs_29_55, zs_29_58, zs_29_59, zs_29_62, zs_29_63, zs_29_66, zs_29_69, zs_29_70, zs_29_73, zs_29_74, zs_29_75, zs_29_78, zs_29_80, zs_29_83, zs_29_86, q5, e0, d_72 hl, e3, q1, p1, p2, p3, p4, q8, q6, q7, q10, zECc, zrc_1, zf_1_0, zp_1_0, zp_1_0n, zf_1_1, zp_1_1, zf_1_2, zp_1_2, zp_1_2n, zf_1_3, zp_1_3, zp_1_3n, zf_1_4, zp_1_40, zp_1_41, zf_1_5, zp_1_5, zp_1_5n, zf_1_6, zp_1_6, zp_1_6n, zf_1_7, zp_1_7, zp_1_7n, zf_1_8, zp_1_8, zp_1_8n, zf_1_9, zp_1_9, zp_1_9n, zf_1_10, zp_1_10, zp_1_10n, zf_1_11, zp_1_11, zp_1_11n, zf_1_12, zp_1_12, zp_1_12n, zAl_rc b3, e1, zAl_rc o4, e2, e4, u5, e5, e6, u7, e7, zbk_v, zbk_x, zts_s, zts_n]
      · rw [if_neg hf]
        obtain ⟨h3, e4, C3, f3'⟩ := d_74n (sv := sv) (d := d + 42) (t := ysim (yder c t)) C2 r3 r2 (by omega) (by omega) r5 r6 (ysz_16 (by omega)) hf
        refine ⟨h3, ?_, C3, zfx_mono (zfx_tr g12 f3') (Nat.le_refl _) (Nat.le_refl _) (by omega) (by omega)⟩
        simp (disch := exact znw_u) only [zc_29, zs_29_0, zs_29_1, zs_29_2, zs_29_5, zs_29_6, zs_29_7, zs_29_10, zs_29_11, zs_29_14, zs_29_15, zs_29_18, zs_29_19, zs_29_20, zs_29_21, zs_29_24, zs_29_27, zs_29_29, zs_29_30, zs_29_33, zs_29_34, zs_29_37, zs_29_39, zs_29_40, zs_29_43, zs_29_46, zs_29_48, zs_29_49, zs_29_50, zs_29_53, zs_29_55, zs_29_58, zs_29_59, zs_29_62, zs_29_63, zs_29_66, zs_29_69, zs_29_70, zs_29_73, zs_29_74, zs_29_75, zs_29_78, zs_29_80, zs_29_83, zs_29_86, q5, e0, d_72 hl, e3, q1, p1, p2, p3, p4, zECc, zrc_1, zf_1_0, zp_1_0, zp_1_0n, zf_1_1, zp_1_1, zf_1_2, zp_1_2, zp_1_2n, zf_1_3, zp_1_3, zp_1_3n, zf_1_4, zp_1_40, zp_1_41, zf_1_5, zp_1_5, zp_1_5n, zf_1_6, zp_1_6, zp_1_6n, zf_1_7, zp_1_7, zp_1_7n, zf_1_8, zp_1_8, zp_1_8n, zf_1_9, zp_1_9, zp_1_9n, zf_1_10, zp_1_10, zp_1_10n, zf_1_11, zp_1_11, zp_1_11n, zf_1_12, zp_1_12, zp_1_12n, zAl_rc b3, e1, zAl_rc o4, e2, e4, zbk_v, zbk_x, zts_s, zts_n]
end ZED

/-- what substitute does to formulas that are there -/
def yinsF (w : yW) (i : Nat) (t : yT) (c : Int32) (u : yT) : zO × yW := if ylet c = false then (.inr 1, w) else if ysz (yins c u t) ≤ 31 ∧ ydp (yins c u t) ≤ 8 then (.inl (some (.int (nI (ysz (yins c u t))))), ysc (yrec w) ((ycur w).1.set i (yins c u t), (ycur w).2)) else (.inr 3, w)
section ZEE
variable {sv : Nat → Value} {d : Nat} {h : zH} {m : Nat} {w : yW}
theorem d_30n {x c y : Int32} (hc : zCls h m w) (hx : x < 0 ∨ ¬ x < nI (ycur w).1.length) : zEnd h m (zcall zP sv (d + 48) 30 [.ref m, .int x, .int c, .int y] h) 1 6 (.inr 2) w := by
  obtain ⟨t1, t2⟩ := zthrow hc
  refine ⟨_, ?_, t1, t2⟩
  have q1 := zCls_0 hc
  have e1 := d_70n (sv := sv) (d := d + 45) hc hx
  have q5 : ∀ X : zR, zrc (h.1 m) 1 X = X := fun X => by rw [q1]; exact zrc_k
  simp (disch := exact znw_u) only [zc_30, zs_30_0, zs_30_1, zs_30_2, zs_30_5, zs_30_7, zs_30_8, zs_30_9, zs_30_12, zs_30_14, zs_30_15, zs_30_18, zs_30_19, zs_30_22, zs_30_24, zs_30_25, zs_30_27, zs_30_28, zs_30_31, zs_30_34, zs_30_36, zs_30_37, zs_30_38, zs_30_41, zs_30_43, zs_30_46, zs_30_47, zs_30_50, zs_30_51, zs_30_54, zs_30_57, zs_30_58, zs_30_59, zs_30_62, zs_30_64, zs_30_67, zs_30_69, zs_30_70, zs_30_73, zs_30_74, zs_30_76, zs_30_79, zs_30_81, zs_30_84, q5, e1, zbk_x]
theorem d_30m {i : Nat} {t : yT} {c y : Int32} (hc : zCls h m w) (hi : (ycur w).1[i]? = some t) (hx : y < 0 ∨ ¬ y < nI (ycur w).1.length) : zEnd h m (zcall zP sv (d + 48) 30 [.ref m, .int (nI i), .int c, .int y] h) 1 6 (.inr 2) w := by
  obtain ⟨t1, t2⟩ := zthrow hc
  refine ⟨_, ?_, t1, t2⟩
  have q1 := zCls_0 hc
  obtain ⟨a, e0, a1, a2, a3, a4⟩ := d_70k (sv := sv) (d := d + 45) hc hi
  have e1 := d_70n (sv := sv) (d := d + 45) hc hx
  have q5 : ∀ X : zR, zrc (h.1 m) 1 X = X := fun X => by rw [q1]; exact zrc_k
  simp (disch := exact znw_u) only [zc_30, zs_30_0, zs_30_1, zs_30_2, zs_30_5, zs_30_7, zs_30_8, zs_30_9, zs_30_12, zs_30_14, zs_30_15, zs_30_18, zs_30_19, zs_30_22, zs_30_24, zs_30_25, zs_30_27, zs_30_28, zs_30_31, zs_30_34, zs_30_36, zs_30_37, zs_30_38, zs_30_41, zs_30_43, zs_30_46, zs_30_47, zs_30_50, zs_30_51, zs_30_54, zs_30_57, zs_30_58, zs_30_59, zs_30_62, zs_30_64, zs_30_67, zs_30_69, zs_30_70, zs_30_73, zs_30_74, zs_30_76, zs_30_79, zs_30_81, zs_30_84, q5, e0, e1, zbk_v, zbk_x, zts_s]
theorem d_30 {i j : Nat} {t u : yT} {c : Int32} (hc : zCls h m w) (hi : (ycur w).1[i]? = some t) (hj : (ycur w).1[j]? = some u) : zEnd h m (zcall zP sv (d + 48) 30 [.ref m, .int (nI i), .int c, .int (nI j)] h) 9 134 (yinsF w i t c u).1 (yinsF w i t c u).2 := by
  have q1 := zCls_0 hc
  have q5 : ∀ X : zR, zrc (h.1 m) 1 X = X := fun X => by rw [q1]; exact zrc_k
  have c0 := hc.1
  have cs := hc.2.2.2.2.2.2.1
  obtain ⟨a, e0, a1, a2, a3, a4⟩ := d_70k (sv := sv) (d := d + 45) hc hi
  obtain ⟨b, e0', b1, b2, b3, b4⟩ := d_70k (sv := sv) (d := d + 45) hc hj
  have hil := (List.getElem?_eq_some_iff.mp hi).1
  unfold yinsF
  cases hl : ylet c with
  | false =>
    rw [if_pos rfl]
    obtain ⟨t1, t2⟩ := zthrow hc
    refine ⟨_, ?_, t1, zfx_mono t2 (Nat.le_refl _) (Nat.le_refl _) (by omega) (by omega)⟩
    simp (disch := exact znw_u) only [zc_30, zs_30_0, zs_30_1, zs_30_2, zs_30_5, zs_30_7, zs_30_8, zs_30_9, zs_30_12, zs_30_14, zs_30_15, zs_30_18, zs_30_19, zs_30_22, zs_30_24, zs_30_25, zs_30_27, zs_30_28, zs_30_31, zs_30_34, zs_30_36, zs_30_37, zs_30_38, zs_30_41, zs_30_43, zs_30_46, zs_30_47, zs_30_50, zs_30_51, zs_30_54, zs_30_57, zs_30_58, zs_30_59, zs_30_62, zs_30_64, zs_30_67, zs_30_69, zs_30_70, zs_30_73, zs_30_74, zs_30_76, zs_30_79, zs_30_81, zs_30_84, q5, e0, e0', d_72n hl, zbk_v, zbk_x, zts_s]
  | true =>
    rw [if_neg (by decide)]
    have hsz := a4.2.1
    have hdp := a4.2.2
    have hsz2 := b4.2.1
    have hdp2 := b4.2.2
    obtain ⟨f1, f2, f3, f4⟩ := yform a4.1 (by omega)
    obtain ⟨g1, g2, g3, g4⟩ := yform b4.1 (by omega)
    obtain ⟨n1, z1⟩ := cs.1
    obtain ⟨P, z3⟩ := cs.2.2.1
    obtain ⟨h1, os, P1, x, e1, o1, o2, o3, o4, o5, o6, o7⟩ := d_92 (sv := sv) (d := d + 42) (c := c) f1 (by omega) (by omega) g1 (by omega) (by omega) (show a + 9 ≤ m + 45 ∨ m + 45 + 9 ≤ a by omega) (show a + 9 ≤ m + 75 ∨ m + 75 + 3 ≤ a by omega) (by omega) (show m + 45 + 9 ≤ b ∨ b + 9 ≤ m + 45 by omega) a3 b3 z1 z3
    rw [f3, f2, g3, g2] at o6
    have C1 := zCls_f2 hc o7 (by omega) (by omega) (by omega) (by omega) (by omega) (by omega) (zScr_ro cs o7 o3 o4)
    have hdd := ydp_yins (c := c) (w := u) t
    have hw2 := ytw_yins (c := c) b4.1 t a4.1
    have g12 : zfx m (m + 119) 0 0 h h1 := ⟨fun q _ p => o7.1 q (by omega) (by omega), by rw [o7.2]; exact Nat.le_refl _, by rw [o7.2]; exact Nat.le_refl _, by rw [o7.2]; exact Nat.le_refl _⟩
    have p1 : h1.1 m = zECc m w.2.1 (yb w.2.2.1) := zCls_0 C1
    have p3 : ∀ X : zR, zrc (h1.1 m) 1 X = X := fun X => by rw [p1]; exact zrc_k
    by_cases hf : ysz (yins c u t) ≤ 31 ∧ ydp (yins c u t) ≤ 8
    · rw [if_pos hf]
      obtain ⟨h3, e4, C3, f3'⟩ := d_74E (sv := sv) (d := d + 42) (t := yins c u t) C1 o3 o2 (by omega) (by omega) o5 o6 (ysz_16 (by omega)) hf
      have ht3 := zTre_fr o3 f3' (by omega)
      obtain ⟨h4, e5, C4, f4'⟩ := d_132E (sv := sv) (d := d + 43) C3
      have ht4 := zTre_fr ht3 f4' (by omega)
      have s4 : h4.2 = h.2 := f4'.2.trans (f3'.2.trans o7.2)
      obtain ⟨h5, e6, C5, fx5, T5, s5⟩ := d_75E (sv := sv) (d := d + 2) (t := yins c u t) C4 ht4 o2 (by omega) (by omega) (by rw [s4]; omega) o5 o6 (ytw_sz hw2) hf.1 (by omega)
      rw [s4] at e6 T5 s5
      obtain ⟨S, s1, s2'⟩ := C5.2.2.1
      have hS : S.1.length = (ycur w).1.length := s2'.2.1.1
      obtain ⟨h6, e7, w6, f6⟩ := d_175S (sv := sv) (d := d + 46) (i := i) s1 (by omega) (zTre_k6 T5)
      have k6 := zkp_fr (m := m) f6 (by omega)
      have T6 := zTre_cg T5 (zcg_fr f6 (by omega))
      have b3S := s2'.2.2
      have hA6 : zAS h6 m (S.1.set i h.2.1, S.2) ((ycur w).1.set i (yins c u t), (ycur w).2) := by
        refine ⟨s2'.1, zFs_set (zFs_kp s2'.2.1 k6) (by omega) ⟨c0, by rw [f6.2, s5]; exact Nat.le_refl _, T6⟩, ?_, fun v hv => ?_, b3S.2.2⟩
        · rw [List.length_set]; exact b3S.1
        · rcases List.mem_or_eq_of_mem_set hv with g | g
          · exact b3S.2.1 v g
          · rw [g]
            exact ⟨hw2, hf⟩
      have e8 := d_182 (sv := sv) (d := d + 46) T6
      rw [ypo_len] at e8
      have q3 : h3.1 m = zECc m w.2.1 (yb w.2.2.1) := zCls_0 C3
      have q4 : h4.1 m = zECc m w.2.1 (yb w.2.2.1) := zCls_0 (w := yrec w) C4
      have q6 : h5.1 m = zECc m w.2.1 (yb w.2.2.1) := zCls_0 (w := yrec w) C5
      have q10 : ∀ X : zR, zrc (h4.1 m) 1 X = X := fun X => by rw [q4]; exact zrc_k
      refine ⟨h6, ?_, zCls_cur C5 f6 w6 hA6, zfx_mono (zfx_tr g12 (zfx_tr (zfr_fx f3' (by omega) (by omega)) (zfx_tr (zfr_fx f4' (by omega) (by omega)) (zfx_tr (zfx_mono fx5 (by omega) (by omega) (Nat.le_refl _) (Nat.le_refl _)) (zfr_fx f6 (by omega) (by omega)))))) (Nat.le_refl _) (Nat.le_refl _) (by omega) (by omega)⟩
      simp (disch := exact znw_u) only [zc_30, zs_30_0, zs_30_1, zs_30_2, zs_30_5, zs_30_7, zs_30_8, zs_30_9, zs_30_12, zs_30_14, zs_30_15, zs_30_18, zs_30_19, zs_30_22, zs_30_24, zs_30_25, zs_30_27, zs_30_28, zs_30_31, zs_30_34, zs_30_36, zs_30_37, zs_30_38, zs_30_41, zs_30_43, zs_30_46, zs_30_47, zs_30_50, zs_30_51, zs_30_54, zs_30_57, zs_30_58, zs_30_59, zs_30_62, zs_30_64, zs_30_67, zs_30_69, zs_30_70, zs_30_73, zs_30_74, zs_30_76, zs_30_79, zs_30_81, zs_30_84, q5, e0, e0', d_72 hl, q1, p1, p3, q3, q4, q6, q10, zECc, zrc_1, zf_1_0, zp_1_0, zp_1_0n, zf_1_1, zp_1_1, zf_1_2, zp_1_2, zp_1_2n, zf_1_3, zp_1_3, zp_1_3n, zf_1_4, zp_1_40, zp_1_41, zf_1_5, zp_1_5, zp_1_5n, zf_1_6, zp_1_6, zp_1_6n, zf_1_7, zp_1_7, zp_1_7n, zf_1_8, zp_1_8, zp_1_8n, zf_1_9, zp_1_9, zp_1_9n, zf_1_10, zp_1_10, zp_1_10n, zf_1_11, zp_1_11, zp_1_11n, zf_1_12, zp_1_12, zp_1_12n, zAl_rc z3, e1, e4, zthr_his C3, e5, e6, zSta_rc s1, e7, zTre_rc T6, e8, zbk_v, zbk_x, zts_s, zts_n]
    · rw [if_neg hf]
      obtain ⟨h3, e4, C3, f3'⟩ := d_74n (sv := sv) (d := d + 42) (t := yins c u t) C1 o3 o2 (by omega) (by omega) o5 o6 (ysz_16 (by omega)) hf
      refine ⟨h3, ?_, C3, zfx_mono (zfx_tr g12 f3') (Nat.le_refl _) (Nat.le_refl _) (by omega) (by omega)⟩
      simp (disch := exact znw_u) only [zc_30, zs_30_0, zs_30_1, zs_30_2, zs_30_5, zs_30_7, zs_30_8, zs_30_9, zs_30_12, zs_30_14, zs_30_15, zs_30_18, zs_30_19, zs_30_22, zs_30_24, zs_30_25, zs_30_27, zs_30_28, zs_30_31, zs_30_34, zs_30_36, zs_30_37, zs_30_38, zs_30_41, zs_30_43, zs_30_46, zs_30_47, zs_30_50, zs_30_51, zs_30_54, zs_30_57, zs_30_58, zs_30_59, zs_30_62, zs_30_64, zs_30_67, zs_30_69, zs_30_70, zs_30_73, zs_30_74, zs_30_76, zs_30_79, zs_30_81, zs_30_84, q5, e0, e0', d_72 hl, q1, p1, p3, zECc, zrc_1, zf_1_0, zp_1_0, zp_1_0n, zf_1_1, zp_1_1, zf_1_2, zp_1_2, zp_1_2n, zf_1_3, zp_1_3, zp_1_3n, zf_1_4, zp_1_40, zp_1_41, zf_1_5, zp_1_5, zp_1_5n, zf_1_6, zp_1_6, zp_1_6n, zf_1_7, zp_1_7, zp_1_7n, zf_1_8, zp_1_8, zp_1_8n, zf_1_9, zp_1_9, zp_1_9n, zf_1_10, zp_1_10, zp_1_10n, zf_1_11, zp_1_11, zp_1_11n, zf_1_12, zp_1_12, zp_1_12n, zAl_rc z3, e1, e4, zbk_v, zbk_x, zts_s, zts_n]
end ZEE

section ZEF
variable {sv : Nat → Value} {d : Nat} {h : zH} {m : Nat} {w : yW}
theorem zEC1 (hc : zCls h m w) : ∀ X : zR, zrc (h.1 m) 1 X = X := fun X => by
  rw [zCls_0 hc]
  exact zrc_k
theorem d_36n {x0 : Int32} (hc : zCls h m w) (hx : x0 < 0 ∨ ¬ x0 < nI (ycur w).1.length) : zEnd h m (zcall zP sv (d + 48) 36 [.ref m, .int x0] h) 1 6 (.inr 2) w := by
  obtain ⟨t1, t2⟩ := zthrow hc
  refine ⟨_, ?_, t1, t2⟩
  have q1 := zCls_0 hc
  have e1 := d_70n (sv := sv) (d := d + 45) hc hx
  simp (disch := exact znw_u) only [zc_36, zs_36_0, zs_36_1, zs_36_2, zs_36_5, zs_36_8, q1, zECc, zrc_1, zf_1_0, zp_1_0, zp_1_0n, zf_1_1, zp_1_1, zf_1_2, zp_1_2, zp_1_2n, zf_1_3, zp_1_3, zp_1_3n, zf_1_4, zp_1_40, zp_1_41, zf_1_5, zp_1_5, zp_1_5n, zf_1_6, zp_1_6, zp_1_6n, zf_1_7, zp_1_7, zp_1_7n, zf_1_8, zp_1_8, zp_1_8n, zf_1_9, zp_1_9, zp_1_9n, zf_1_10, zp_1_10, zp_1_10n, zf_1_11, zp_1_11, zp_1_11n, zf_1_12, zp_1_12, zp_1_12n, zEC1 hc, e1, zbk_x]
theorem d_37n {x0 : Int32} (hc : zCls h m w) (hx : x0 < 0 ∨ ¬ x0 < nI (ycur w).1.length) : zEnd h m (zcall zP sv (d + 48) 37 [.ref m, .int x0] h) 1 6 (.inr 2) w := by
  obtain ⟨t1, t2⟩ := zthrow hc
  refine ⟨_, ?_, t1, t2⟩
  have q1 := zCls_0 hc
  have e1 := d_70n (sv := sv) (d := d + 45) hc hx
  simp (disch := exact znw_u) only [zc_37, zs_37_0, zs_37_1, zs_37_2, zs_37_5, zs_37_6, zs_37_7, zs_37_10, zs_37_11, zs_37_12, zs_37_15, zs_37_18, q1, zECc, zrc_1, zf_1_0, zp_1_0, zp_1_0n, zf_1_1, zp_1_1, zf_1_2, zp_1_2, zp_1_2n, zf_1_3, zp_1_3, zp_1_3n, zf_1_4, zp_1_40, zp_1_41, zf_1_5, zp_1_5, zp_1_5n, zf_1_6, zp_1_6, zp_1_6n, zf_1_7, zp_1_7, zp_1_7n, zf_1_8, zp_1_8, zp_1_8n, zf_1_9, zp_1_9, zp_1_9n, zf_1_10, zp_1_10, zp_1_10n, zf_1_11, zp_1_11, zp_1_11n, zf_1_12, zp_1_12, zp_1_12n, zEC1 hc, e1, zbk_x]
theorem d_38n {x0 : Int32} {x1 : Int32} (hc : zCls h m w) (hx : x0 < 0 ∨ ¬ x0 < nI (ycur w).1.length) : zEnd h m (zcall zP sv (d + 48) 38 [.ref m, .int x0, .int x1] h) 1 6 (.inr 2) w := by
  obtain ⟨t1, t2⟩ := zthrow hc
  refine ⟨_, ?_, t1, t2⟩
  have q1 := zCls_0 hc
  have e1 := d_70n (sv := sv) (d := d + 45) hc hx
  simp (disch := exact znw_u) only [zc_38, zs_38_0, zs_38_1, zs_38_2, zs_38_5, zs_38_6, zs_38_7, zs_38_10, zs_38_11, zs_38_13, zs_38_14, zs_38_16, zs_38_18, zs_38_19, zs_38_22, zs_38_25, zs_38_26, zs_38_28, zs_38_29, zs_38_32, zs_38_35, zs_38_38, zs_38_41, zs_38_44, zs_38_46, q1, zECc, zrc_1, zf_1_0, zp_1_0, zp_1_0n, zf_1_1, zp_1_1, zf_1_2, zp_1_2, zp_1_2n, zf_1_3, zp_1_3, zp_1_3n, zf_1_4, zp_1_40, zp_1_41, zf_1_5, zp_1_5, zp_1_5n, zf_1_6, zp_1_6, zp_1_6n, zf_1_7, zp_1_7, zp_1_7n, zf_1_8, zp_1_8, zp_1_8n, zf_1_9, zp_1_9, zp_1_9n, zf_1_10, zp_1_10, zp_1_10n, zf_1_11, zp_1_11, zp_1_11n, zf_1_12, zp_1_12, zp_1_12n, zEC1 hc, e1, zbk_x]
theorem d_39n {x0 : Int32} (hc : zCls h m w) (hx : x0 < 0 ∨ ¬ x0 < nI (ycur w).1.length) : zEnd h m (zcall zP sv (d + 48) 39 [.ref m, .int x0] h) 1 6 (.inr 2) w := by
  obtain ⟨t1, t2⟩ := zthrow hc
  refine ⟨_, ?_, t1, t2⟩
  have q1 := zCls_0 hc
  have e1 := d_70n (sv := sv) (d := d + 45) hc hx
  simp (disch := exact znw_u) only [zc_39, zs_39_0, zs_39_1, zs_39_4, zs_39_5, zs_39_6, zs_39_9, zs_39_12, q1, zECc, zrc_1, zf_1_0, zp_1_0, zp_1_0n, zf_1_1, zp_1_1, zf_1_2, zp_1_2, zp_1_2n, zf_1_3, zp_1_3, zp_1_3n, zf_1_4, zp_1_40, zp_1_41, zf_1_5, zp_1_5, zp_1_5n, zf_1_6, zp_1_6, zp_1_6n, zf_1_7, zp_1_7, zp_1_7n, zf_1_8, zp_1_8, zp_1_8n, zf_1_9, zp_1_9, zp_1_9n, zf_1_10, zp_1_10, zp_1_10n, zf_1_11, zp_1_11, zp_1_11n, zf_1_12, zp_1_12, zp_1_12n, zEC1 hc, e1, zbk_x]
theorem d_40n {x0 : Int32} (hc : zCls h m w) (hx : x0 < 0 ∨ ¬ x0 < nI (ycur w).1.length) : zEnd h m (zcall zP sv (d + 48) 40 [.ref m, .int x0] h) 1 6 (.inr 2) w := by
  obtain ⟨t1, t2⟩ := zthrow hc
  refine ⟨_, ?_, t1, t2⟩
  have q1 := zCls_0 hc
  have e1 := d_70n (sv := sv) (d := d + 45) hc hx
  simp (disch := exact znw_u) only [zc_40, zs_40_0, zs_40_1, zs_40_2, zs_40_5, zs_40_6, zs_40_7, zs_40_8, zs_40_9, zs_40_10, zs_40_13, zs_40_16, zs_40_17, zs_40_18, zs_40_21, zs_40_23, zs_40_26, zs_40_27, zs_40_28, zs_40_31, zs_40_34, zs_40_35, q1, zECc, zrc_1, zf_1_0, zp_1_0, zp_1_0n, zf_1_1, zp_1_1, zf_1_2, zp_1_2, zp_1_2n, zf_1_3, zp_1_3, zp_1_3n, zf_1_4, zp_1_40, zp_1_41, zf_1_5, zp_1_5, zp_1_5n, zf_1_6, zp_1_6, zp_1_6n, zf_1_7, zp_1_7, zp_1_7n, zf_1_8, zp_1_8, zp_1_8n, zf_1_9, zp_1_9, zp_1_9n, zf_1_10, zp_1_10, zp_1_10n, zf_1_11, zp_1_11, zp_1_11n, zf_1_12, zp_1_12, zp_1_12n, zEC1 hc, e1, zbk_x]
theorem d_41n {x0 : Int32} {x1 : Int32} (hc : zCls h m w) (hx : x0 < 0 ∨ ¬ x0 < nI (ycur w).1.length) : zEnd h m (zcall zP sv (d + 48) 41 [.ref m, .int x0, .int x1] h) 1 6 (.inr 2) w := by
  obtain ⟨t1, t2⟩ := zthrow hc
  refine ⟨_, ?_, t1, t2⟩
  have q1 := zCls_0 hc
  have e1 := d_70n (sv := sv) (d := d + 45) hc hx
  simp (disch := exact znw_u) only [zc_41, zs_41_0, zs_41_1, zs_41_2, zs_41_5, zs_41_6, zs_41_7, zs_41_8, zs_41_11, zs_41_13, zs_41_14, zs_41_15, zs_41_18, zs_41_20, zs_41_22, zs_41_25, zs_41_26, zs_41_29, q1, zECc, zrc_1, zf_1_0, zp_1_0, zp_1_0n, zf_1_1, zp_1_1, zf_1_2, zp_1_2, zp_1_2n, zf_1_3, zp_1_3, zp_1_3n, zf_1_4, zp_1_40, zp_1_41, zf_1_5, zp_1_5, zp_1_5n, zf_1_6, zp_1_6, zp_1_6n, zf_1_7, zp_1_7, zp_1_7n, zf_1_8, zp_1_8, zp_1_8n, zf_1_9, zp_1_9, zp_1_9n, zf_1_10, zp_1_10, zp_1_10n, zf_1_11, zp_1_11, zp_1_11n, zf_1_12, zp_1_12, zp_1_12n, zEC1 hc, e1, zbk_x]
theorem d_42n {x0 : Int32} (hc : zCls h m w) (hx : x0 < 0 ∨ ¬ x0 < nI (ycur w).1.length) : zEnd h m (zcall zP sv (d + 48) 42 [.ref m, .int x0] h) 1 6 (.inr 2) w := by
  obtain ⟨t1, t2⟩ := zthrow hc
  refine ⟨_, ?_, t1, t2⟩
  have q1 := zCls_0 hc
  have e1 := d_70n (sv := sv) (d := d + 45) hc hx
  simp (disch := exact znw_u) only [zc_42, zs_42_0, zs_42_1, zs_42_2, zs_42_3, zs_42_6, zs_42_9, q1, zECc, zrc_1, zf_1_0, zp_1_0, zp_1_0n, zf_1_1, zp_1_1, zf_1_2, zp_1_2, zp_1_2n, zf_1_3, zp_1_3, zp_1_3n, zf_1_4, zp_1_40, zp_1_41, zf_1_5, zp_1_5, zp_1_5n, zf_1_6, zp_1_6, zp_1_6n, zf_1_7, zp_1_7, zp_1_7n, zf_1_8, zp_1_8, zp_1_8n, zf_1_9, zp_1_9, zp_1_9n, zf_1_10, zp_1_10, zp_1_10n, zf_1_11, zp_1_11, zp_1_11n, zf_1_12, zp_1_12, zp_1_12n, zEC1 hc, e1, zbk_x]
theorem d_43n {x0 : Int32} (hc : zCls h m w) (hx : x0 < 0 ∨ ¬ x0 < nI (ycur w).1.length) : zEnd h m (zcall zP sv (d + 48) 43 [.ref m, .int x0] h) 1 6 (.inr 2) w := by
  obtain ⟨t1, t2⟩ := zthrow hc
  refine ⟨_, ?_, t1, t2⟩
  have q1 := zCls_0 hc
  have e1 := d_70n (sv := sv) (d := d + 45) hc hx
  simp (disch := exact znw_u) only [zc_43, zs_43_0, zs_43_1, zs_43_2, zs_43_5, zs_43_8, q1, zECc, zrc_1, zf_1_0, zp_1_0, zp_1_0n, zf_1_1, zp_1_1, zf_1_2, zp_1_2, zp_1_2n, zf_1_3, zp_1_3, zp_1_3n, zf_1_4, zp_1_40, zp_1_41, zf_1_5, zp_1_5, zp_1_5n, zf_1_6, zp_1_6, zp_1_6n, zf_1_7, zp_1_7, zp_1_7n, zf_1_8, zp_1_8, zp_1_8n, zf_1_9, zp_1_9, zp_1_9n, zf_1_10, zp_1_10, zp_1_10n, zf_1_11, zp_1_11, zp_1_11n, zf_1_12, zp_1_12, zp_1_12n, zEC1 hc, e1, zbk_x]
theorem d_44n {x0 : Int32} {x1 : Int32} (hc : zCls h m w) (hx : x0 < 0 ∨ ¬ x0 < nI (ycur w).1.length) : zEnd h m (zcall zP sv (d + 48) 44 [.ref m, .int x0, .int x1] h) 1 6 (.inr 2) w := by
  obtain ⟨t1, t2⟩ := zthrow hc
  refine ⟨_, ?_, t1, t2⟩
  have q1 := zCls_0 hc
  have e1 := d_70n (sv := sv) (d := d + 45) hc hx
  simp (disch := exact znw_u) only [zc_44, zs_44_0, zs_44_1, zs_44_2, zs_44_5, zs_44_6, zs_44_7, zs_44_8, zs_44_11, zs_44_13, zs_44_14, zs_44_16, zs_44_19, zs_44_21, zs_44_22, zs_44_23, zs_44_26, zs_44_28, zs_44_29, zs_44_32, zs_44_34, zs_44_37, zs_44_39, zs_44_41, zs_44_42, zs_44_43, zs_44_46, zs_44_49, zs_44_50, q1, zECc, zrc_1, zf_1_0, zp_1_0, zp_1_0n, zf_1_1, zp_1_1, zf_1_2, zp_1_2, zp_1_2n, zf_1_3, zp_1_3, zp_1_3n, zf_1_4, zp_1_40, zp_1_41, zf_1_5, zp_1_5, zp_1_5n, zf_1_6, zp_1_6, zp_1_6n, zf_1_7, zp_1_7, zp_1_7n, zf_1_8, zp_1_8, zp_1_8n, zf_1_9, zp_1_9, zp_1_9n, zf_1_10, zp_1_10, zp_1_10n, zf_1_11, zp_1_11, zp_1_11n, zf_1_12, zp_1_12, zp_1_12n, zEC1 hc, e1, zbk_x]
theorem d_45n {x0 : Int32} (hc : zCls h m w) (hx : x0 < 0 ∨ ¬ x0 < nI (ycur w).1.length) : zEnd h m (zcall zP sv (d + 48) 45 [.ref m, .int x0] h) 1 6 (.inr 2) w := by
  obtain ⟨t1, t2⟩ := zthrow hc
  refine ⟨_, ?_, t1, t2⟩
  have q1 := zCls_0 hc
  have e1 := d_70n (sv := sv) (d := d + 45) hc hx
  simp (disch := exact znw_u) only [zc_45, zs_45_0, zs_45_1, zs_45_2, zs_45_5, zs_45_6, zs_45_7, zs_45_10, zs_45_11, zs_45_12, zs_45_15, zs_45_16, zs_45_19, zs_45_22, zs_45_25, q1, zECc, zrc_1, zf_1_0, zp_1_0, zp_1_0n, zf_1_1, zp_1_1, zf_1_2, zp_1_2, zp_1_2n, zf_1_3, zp_1_3, zp_1_3n, zf_1_4, zp_1_40, zp_1_41, zf_1_5, zp_1_5, zp_1_5n, zf_1_6, zp_1_6, zp_1_6n, zf_1_7, zp_1_7, zp_1_7n, zf_1_8, zp_1_8, zp_1_8n, zf_1_9, zp_1_9, zp_1_9n, zf_1_10, zp_1_10, zp_1_10n, zf_1_11, zp_1_11, zp_1_11n, zf_1_12, zp_1_12, zp_1_12n, zEC1 hc, e1, zbk_x]
theorem d_46n {x0 : Int32} (hc : zCls h m w) (hx : x0 < 0 ∨ ¬ x0 < nI (ycur w).1.length) : zEnd h m (zcall zP sv (d + 48) 46 [.ref m, .int x0] h) 1 6 (.inr 2) w := by
  obtain ⟨t1, t2⟩ := zthrow hc
  refine ⟨_, ?_, t1, t2⟩
  have q1 := zCls_0 hc
  have e1 := d_70n (sv := sv) (d := d + 45) hc hx
  simp (disch := exact znw_u) only [zc_46, zs_46_0, zs_46_1, zs_46_2, zs_46_3, zs_46_6, zs_46_9, q1, zECc, zrc_1, zf_1_0, zp_1_0, zp_1_0n, zf_1_1, zp_1_1, zf_1_2, zp_1_2, zp_1_2n, zf_1_3, zp_1_3, zp_1_3n, zf_1_4, zp_1_40, zp_1_41, zf_1_5, zp_1_5, zp_1_5n, zf_1_6, zp_1_6, zp_1_6n, zf_1_7, zp_1_7, zp_1_7n, zf_1_8, zp_1_8, zp_1_8n, zf_1_9, zp_1_9, zp_1_9n, zf_1_10, zp_1_10, zp_1_10n, zf_1_11, zp_1_11, zp_1_11n, zf_1_12, zp_1_12, zp_1_12n, zEC1 hc, e1, zbk_x]
theorem d_47n {x0 : Int32} {x1 : Int32} (hc : zCls h m w) (hx : x0 < 0 ∨ ¬ x0 < nI (ycur w).1.length) : zEnd h m (zcall zP sv (d + 48) 47 [.ref m, .int x0, .int x1] h) 1 6 (.inr 2) w := by
  obtain ⟨t1, t2⟩ := zthrow hc
  refine ⟨_, ?_, t1, t2⟩
  have q1 := zCls_0 hc
  have e1 := d_70n (sv := sv) (d := d + 45) hc hx
  simp (disch := exact znw_u) only [zc_47, zs_47_0, zs_47_1, zs_47_2, zs_47_5, zs_47_6, zs_47_7, zs_47_10, zs_47_11, zs_47_14, zs_47_15, zs_47_16, zs_47_17, zs_47_20, zs_47_23, zs_47_26, q1, zECc, zrc_1, zf_1_0, zp_1_0, zp_1_0n, zf_1_1, zp_1_1, zf_1_2, zp_1_2, zp_1_2n, zf_1_3, zp_1_3, zp_1_3n, zf_1_4, zp_1_40, zp_1_41, zf_1_5, zp_1_5, zp_1_5n, zf_1_6, zp_1_6, zp_1_6n, zf_1_7, zp_1_7, zp_1_7n, zf_1_8, zp_1_8, zp_1_8n, zf_1_9, zp_1_9, zp_1_9n, zf_1_10, zp_1_10, zp_1_10n, zf_1_11, zp_1_11, zp_1_11n, zf_1_12, zp_1_12, zp_1_12n, zEC1 hc, e1, zbk_x]
theorem d_48n {x0 : Int32} {x1 : Int32} (hc : zCls h m w) (hx : x0 < 0 ∨ ¬ x0 < nI (ycur w).1.length) : zEnd h m (zcall zP sv (d + 48) 48 [.ref m, .int x0, .int x1] h) 1 6 (.inr 2) w := by
  obtain ⟨t1, t2⟩ := zthrow hc
  refine ⟨_, ?_, t1, t2⟩
  have q1 := zCls_0 hc
  have e1 := d_70n (sv := sv) (d := d + 45) hc hx
  simp (disch := exact znw_u) only [zc_48, zs_48_0, zs_48_1, zs_48_2, zs_48_5, zs_48_6, zs_48_7, zs_48_10, zs_48_11, zs_48_14, zs_48_15, zs_48_16, zs_48_17, zs_48_20, zs_48_23, zs_48_25, zs_48_26, zs_48_29, zs_48_30, zs_48_33, zs_48_35, zs_48_36, zs_48_39, zs_48_42, zs_48_45, q1, zECc, zrc_1, zf_1_0, zp_1_0, zp_1_0n, zf_1_1, zp_1_1, zf_1_2, zp_1_2, zp_1_2n, zf_1_3, zp_1_3, zp_1_3n, zf_1_4, zp_1_40, zp_1_41, zf_1_5, zp_1_5, zp_1_5n, zf_1_6, zp_1_6, zp_1_6n, zf_1_7, zp_1_7, zp_1_7n, zf_1_8, zp_1_8, zp_1_8n, zf_1_9, zp_1_9, zp_1_9n, zf_1_10, zp_1_10, zp_1_10n, zf_1_11, zp_1_11, zp_1_11n, zf_1_12, zp_1_12, zp_1_12n, zEC1 hc, e1, zbk_x]
theorem d_49n {x0 : Int32} (hc : zCls h m w) (hx : x0 < 0 ∨ ¬ x0 < nI (ycur w).1.length) : zEnd h m (zcall zP sv (d + 48) 49 [.ref m, .int x0] h) 1 6 (.inr 2) w := by
  obtain ⟨t1, t2⟩ := zthrow hc
  refine ⟨_, ?_, t1, t2⟩
  have q1 := zCls_0 hc
  have e1 := d_70n (sv := sv) (d := d + 45) hc hx
  simp (disch := exact znw_u) only [zc_49, zs_49_0, zs_49_1, zs_49_4, zs_49_5, zs_49_6, zs_49_9, zs_49_12, q1, zECc, zrc_1, zf_1_0, zp_1_0, zp_1_0n, zf_1_1, zp_1_1, zf_1_2, zp_1_2, zp_1_2n, zf_1_3, zp_1_3, zp_1_3n, zf_1_4, zp_1_40, zp_1_41, zf_1_5, zp_1_5, zp_1_5n, zf_1_6, zp_1_6, zp_1_6n, zf_1_7, zp_1_7, zp_1_7n, zf_1_8, zp_1_8, zp_1_8n, zf_1_9, zp_1_9, zp_1_9n, zf_1_10, zp_1_10, zp_1_10n, zf_1_11, zp_1_11, zp_1_11n, zf_1_12, zp_1_12, zp_1_12n, zEC1 hc, e1, zbk_x]
theorem d_50n {x0 : Int32} (hc : zCls h m w) (hx : x0 < 0 ∨ ¬ x0 < nI (ycur w).1.length) : zEnd h m (zcall zP sv (d + 48) 50 [.ref m, .int x0] h) 1 6 (.inr 2) w := by
  obtain ⟨t1, t2⟩ := zthrow hc
  refine ⟨_, ?_, t1, t2⟩
  have q1 := zCls_0 hc
  have e1 := d_70n (sv := sv) (d := d + 45) hc hx
  simp (disch := exact znw_u) only [zc_50, zs_50_0, zs_50_1, zs_50_4, zs_50_5, zs_50_6, zs_50_9, zs_50_12, q1, zECc, zrc_1, zf_1_0, zp_1_0, zp_1_0n, zf_1_1, zp_1_1, zf_1_2, zp_1_2, zp_1_2n, zf_1_3, zp_1_3, zp_1_3n, zf_1_4, zp_1_40, zp_1_41, zf_1_5, zp_1_5, zp_1_5n, zf_1_6, zp_1_6, zp_1_6n, zf_1_7, zp_1_7, zp_1_7n, zf_1_8, zp_1_8, zp_1_8n, zf_1_9, zp_1_9, zp_1_9n, zf_1_10, zp_1_10, zp_1_10n, zf_1_11, zp_1_11, zp_1_11n, zf_1_12, zp_1_12, zp_1_12n, zEC1 hc, e1, zbk_x]
theorem d_51n {x0 : Int32} (hc : zCls h m w) (hx : x0 < 0 ∨ ¬ x0 < nI (ycur w).1.length) : zEnd h m (zcall zP sv (d + 48) 51 [.ref m, .int x0] h) 1 6 (.inr 2) w := by
  obtain ⟨t1, t2⟩ := zthrow hc
  refine ⟨_, ?_, t1, t2⟩
  have q1 := zCls_0 hc
  have e1 := d_70n (sv := sv) (d := d + 45) hc hx
  simp (disch := exact znw_u) only [zc_51, zs_51_0, zs_51_1, zs_51_4, zs_51_5, zs_51_6, zs_51_9, zs_51_10, zs_51_13, zs_51_16, zs_51_19, zs_51_20, zs_51_23, zs_51_26, q1, zECc, zrc_1, zf_1_0, zp_1_0, zp_1_0n, zf_1_1, zp_1_1, zf_1_2, zp_1_2, zp_1_2n, zf_1_3, zp_1_3, zp_1_3n, zf_1_4, zp_1_40, zp_1_41, zf_1_5, zp_1_5, zp_1_5n, zf_1_6, zp_1_6, zp_1_6n, zf_1_7, zp_1_7, zp_1_7n, zf_1_8, zp_1_8, zp_1_8n, zf_1_9, zp_1_9, zp_1_9n, zf_1_10, zp_1_10, zp_1_10n, zf_1_11, zp_1_11, zp_1_11n, zf_1_12, zp_1_12, zp_1_12n, zEC1 hc, e1, zbk_x]
theorem d_52n {x0 : Int32} (hc : zCls h m w) (hx : x0 < 0 ∨ ¬ x0 < nI (ycur w).1.length) : zEnd h m (zcall zP sv (d + 48) 52 [.ref m, .int x0] h) 1 6 (.inr 2) w := by
  obtain ⟨t1, t2⟩ := zthrow hc
  refine ⟨_, ?_, t1, t2⟩
  have q1 := zCls_0 hc
  have e1 := d_70n (sv := sv) (d := d + 45) hc hx
  simp (disch := exact znw_u) only [zc_52, zs_52_0, zs_52_1, zs_52_4, zs_52_5, zs_52_6, zs_52_9, zs_52_10, zs_52_13, zs_52_16, zs_52_19, zs_52_20, zs_52_23, zs_52_26, q1, zECc, zrc_1, zf_1_0, zp_1_0, zp_1_0n, zf_1_1, zp_1_1, zf_1_2, zp_1_2, zp_1_2n, zf_1_3, zp_1_3, zp_1_3n, zf_1_4, zp_1_40, zp_1_41, zf_1_5, zp_1_5, zp_1_5n, zf_1_6, zp_1_6, zp_1_6n, zf_1_7, zp_1_7, zp_1_7n, zf_1_8, zp_1_8, zp_1_8n, zf_1_9, zp_1_9, zp_1_9n, zf_1_10, zp_1_10, zp_1_10n, zf_1_11, zp_1_11, zp_1_11n, zf_1_12, zp_1_12, zp_1_12n, zEC1 hc, e1, zbk_x]
theorem d_53n {x0 : Int32} (hc : zCls h m w) (hx : x0 < 0 ∨ ¬ x0 < nI (ycur w).1.length) : zEnd h m (zcall zP sv (d + 48) 53 [.ref m, .int x0] h) 1 6 (.inr 2) w := by
  obtain ⟨t1, t2⟩ := zthrow hc
  refine ⟨_, ?_, t1, t2⟩
  have q1 := zCls_0 hc
  have e1 := d_70n (sv := sv) (d := d + 45) hc hx
  simp (disch := exact znw_u) only [zc_53, zs_53_0, zs_53_1, zs_53_4, zs_53_5, zs_53_6, zs_53_9, zs_53_10, zs_53_13, zs_53_16, zs_53_19, zs_53_20, zs_53_23, zs_53_26, q1, zECc, zrc_1, zf_1_0, zp_1_0, zp_1_0n, zf_1_1, zp_1_1, zf_1_2, zp_1_2, zp_1_2n, zf_1_3, zp_1_3, zp_1_3n, zf_1_4, zp_1_40, zp_1_41, zf_1_5, zp_1_5, zp_1_5n, zf_1_6, zp_1_6, zp_1_6n, zf_1_7, zp_1_7, zp_1_7n, zf_1_8, zp_1_8, zp_1_8n, zf_1_9, zp_1_9, zp_1_9n, zf_1_10, zp_1_10, zp_1_10n, zf_1_11, zp_1_11, zp_1_11n, zf_1_12, zp_1_12, zp_1_12n, zEC1 hc, e1, zbk_x]
theorem d_54n {x0 : Int32} (hc : zCls h m w) (hx : x0 < 0 ∨ ¬ x0 < nI (ycur w).1.length) : zEnd h m (zcall zP sv (d + 48) 54 [.ref m, .int x0] h) 1 6 (.inr 2) w := by
  obtain ⟨t1, t2⟩ := zthrow hc
  refine ⟨_, ?_, t1, t2⟩
  have q1 := zCls_0 hc
  have e1 := d_70n (sv := sv) (d := d + 45) hc hx
  simp (disch := exact znw_u) only [zc_54, zs_54_0, zs_54_1, zs_54_2, zs_54_5, zs_54_6, zs_54_7, zs_54_8, zs_54_9, zs_54_10, zs_54_13, zs_54_14, zs_54_17, zs_54_18, zs_54_19, zs_54_22, zs_54_23, zs_54_26, zs_54_29, zs_54_32, zs_54_33, zs_54_34, zs_54_37, zs_54_40, q1, zECc, zrc_1, zf_1_0, zp_1_0, zp_1_0n, zf_1_1, zp_1_1, zf_1_2, zp_1_2, zp_1_2n, zf_1_3, zp_1_3, zp_1_3n, zf_1_4, zp_1_40, zp_1_41, zf_1_5, zp_1_5, zp_1_5n, zf_1_6, zp_1_6, zp_1_6n, zf_1_7, zp_1_7, zp_1_7n, zf_1_8, zp_1_8, zp_1_8n, zf_1_9, zp_1_9, zp_1_9n, zf_1_10, zp_1_10, zp_1_10n, zf_1_11, zp_1_11, zp_1_11n, zf_1_12, zp_1_12, zp_1_12n, zEC1 hc, e1, zbk_x]
theorem d_55n {x0 : Int32} {x1 : Int32} (hc : zCls h m w) (hx : x0 < 0 ∨ ¬ x0 < nI (ycur w).1.length) : zEnd h m (zcall zP sv (d + 48) 55 [.ref m, .int x0, .int x1] h) 1 6 (.inr 2) w := by
  obtain ⟨t1, t2⟩ := zthrow hc
  refine ⟨_, ?_, t1, t2⟩
  have q1 := zCls_0 hc
  have e1 := d_70n (sv := sv) (d := d + 45) hc hx
  simp (disch := exact znw_u) only [zc_55, zs_55_0, zs_55_1, zs_55_4, zs_55_5, zs_55_6, zs_55_9, zs_55_10, zs_55_13, zs_55_16, zs_55_19, zs_55_20, zs_55_21, zs_55_24, zs_55_25, zs_55_28, zs_55_29, zs_55_32, q1, zECc, zrc_1, zf_1_0, zp_1_0, zp_1_0n, zf_1_1, zp_1_1, zf_1_2, zp_1_2, zp_1_2n, zf_1_3, zp_1_3, zp_1_3n, zf_1_4, zp_1_40, zp_1_41, zf_1_5, zp_1_5, zp_1_5n, zf_1_6, zp_1_6, zp_1_6n, zf_1_7, zp_1_7, zp_1_7n, zf_1_8, zp_1_8, zp_1_8n, zf_1_9, zp_1_9, zp_1_9n, zf_1_10, zp_1_10, zp_1_10n, zf_1_11, zp_1_11, zp_1_11n, zf_1_12, zp_1_12, zp_1_12n, zEC1 hc, e1, zbk_x]
theorem d_56n {x0 : Int32} {x1 : Int32} (hc : zCls h m w) (hx : x0 < 0 ∨ ¬ x0 < nI (ycur w).1.length) : zEnd h m (zcall zP sv (d + 48) 56 [.ref m, .int x0, .int x1] h) 1 6 (.inr 2) w := by
  obtain ⟨t1, t2⟩ := zthrow hc
  refine ⟨_, ?_, t1, t2⟩
  have q1 := zCls_0 hc
  have e1 := d_70n (sv := sv) (d := d + 45) hc hx
  simp (disch := exact znw_u) only [zc_56, zs_56_0, zs_56_1, zs_56_4, zs_56_5, zs_56_6, zs_56_9, zs_56_10, zs_56_13, zs_56_16, zs_56_19, zs_56_20, zs_56_21, zs_56_24, zs_56_25, zs_56_28, zs_56_29, zs_56_32, q1, zECc, zrc_1, zf_1_0, zp_1_0, zp_1_0n, zf_1_1, zp_1_1, zf_1_2, zp_1_2, zp_1_2n, zf_1_3, zp_1_3, zp_1_3n, zf_1_4, zp_1_40, zp_1_41, zf_1_5, zp_1_5, zp_1_5n, zf_1_6, zp_1_6, zp_1_6n, zf_1_7, zp_1_7, zp_1_7n, zf_1_8, zp_1_8, zp_1_8n, zf_1_9, zp_1_9, zp_1_9n, zf_1_10, zp_1_10, zp_1_10n, zf_1_11, zp_1_11, zp_1_11n, zf_1_12, zp_1_12, zp_1_12n, zEC1 hc, e1, zbk_x]
theorem d_57n {x0 : Int32} {x1 : Int32} (hc : zCls h m w) (hx : x0 < 0 ∨ ¬ x0 < nI (ycur w).1.length) : zEnd h m (zcall zP sv (d + 48) 57 [.ref m, .int x0, .int x1] h) 1 6 (.inr 2) w := by
  obtain ⟨t1, t2⟩ := zthrow hc
  refine ⟨_, ?_, t1, t2⟩
  have q1 := zCls_0 hc
  have e1 := d_70n (sv := sv) (d := d + 45) hc hx
  simp (disch := exact znw_u) only [zc_57, zs_57_0, zs_57_1, zs_57_4, zs_57_5, zs_57_6, zs_57_9, zs_57_10, zs_57_13, zs_57_16, zs_57_19, zs_57_20, zs_57_21, zs_57_24, zs_57_25, zs_57_28, zs_57_29, zs_57_32, zs_57_33, zs_57_36, zs_57_37, zs_57_38, zs_57_41, zs_57_44, zs_57_45, zs_57_48, zs_57_51, q1, zECc, zrc_1, zf_1_0, zp_1_0, zp_1_0n, zf_1_1, zp_1_1, zf_1_2, zp_1_2, zp_1_2n, zf_1_3, zp_1_3, zp_1_3n, zf_1_4, zp_1_40, zp_1_41, zf_1_5, zp_1_5, zp_1_5n, zf_1_6, zp_1_6, zp_1_6n, zf_1_7, zp_1_7, zp_1_7n, zf_1_8, zp_1_8, zp_1_8n, zf_1_9, zp_1_9, zp_1_9n, zf_1_10, zp_1_10, zp_1_10n, zf_1_11, zp_1_11, zp_1_11n, zf_1_12, zp_1_12, zp_1_12n, zEC1 hc, e1, zbk_x]
theorem d_58n {x0 : Int32} (hc : zCls h m w) (hx : x0 < 0 ∨ ¬ x0 < nI (ycur w).1.length) : zEnd h m (zcall zP sv (d + 48) 58 [.ref m, .int x0] h) 1 6 (.inr 2) w := by
  obtain ⟨t1, t2⟩ := zthrow hc
  refine ⟨_, ?_, t1, t2⟩
  have q1 := zCls_0 hc
  have e1 := d_70n (sv := sv) (d := d + 45) hc hx
  simp (disch := exact znw_u) only [zc_58, zs_58_0, zs_58_1, zs_58_2, zs_58_5, zs_58_6, zs_58_7, zs_58_10, zs_58_11, zs_58_14, zs_58_15, zs_58_16, zs_58_19, zs_58_20, zs_58_21, zs_58_22, zs_58_25, zs_58_26, zs_58_29, zs_58_30, zs_58_33, zs_58_36, q1, zECc, zrc_1, zf_1_0, zp_1_0, zp_1_0n, zf_1_1, zp_1_1, zf_1_2, zp_1_2, zp_1_2n, zf_1_3, zp_1_3, zp_1_3n, zf_1_4, zp_1_40, zp_1_41, zf_1_5, zp_1_5, zp_1_5n, zf_1_6, zp_1_6, zp_1_6n, zf_1_7, zp_1_7, zp_1_7n, zf_1_8, zp_1_8, zp_1_8n, zf_1_9, zp_1_9, zp_1_9n, zf_1_10, zp_1_10, zp_1_10n, zf_1_11, zp_1_11, zp_1_11n, zf_1_12, zp_1_12, zp_1_12n, zEC1 hc, e1, zbk_x]
theorem d_63n {x0 : Int32} (hc : zCls h m w) (hx : x0 < 0 ∨ ¬ x0 < nI (ycur w).1.length) : zEnd h m (zcall zP sv (d + 48) 63 [.ref m, .int x0] h) 1 6 (.inr 2) w := by
  obtain ⟨t1, t2⟩ := zthrow hc
  refine ⟨_, ?_, t1, t2⟩
  have q1 := zCls_0 hc
  have e1 := d_70n (sv := sv) (d := d + 45) hc hx
  simp (disch := exact znw_u) only [zc_63, zs_63_0, zs_63_1, zs_63_4, zs_63_5, zs_63_6, zs_63_9, zs_63_10, zs_63_13, zs_63_16, zs_63_19, zs_63_20, zs_63_23, zs_63_26, zs_63_29, zs_63_30, zs_63_31, zs_63_32, zs_63_35, zs_63_38, zs_63_39, zs_63_40, zs_63_43, zs_63_46, zs_63_47, zs_63_48, q1, zECc, zrc_1, zf_1_0, zp_1_0, zp_1_0n, zf_1_1, zp_1_1, zf_1_2, zp_1_2, zp_1_2n, zf_1_3, zp_1_3, zp_1_3n, zf_1_4, zp_1_40, zp_1_41, zf_1_5, zp_1_5, zp_1_5n, zf_1_6, zp_1_6, zp_1_6n, zf_1_7, zp_1_7, zp_1_7n, zf_1_8, zp_1_8, zp_1_8n, zf_1_9, zp_1_9, zp_1_9n, zf_1_10, zp_1_10, zp_1_10n, zf_1_11, zp_1_11, zp_1_11n, zf_1_12, zp_1_12, zp_1_12n, zEC1 hc, e1, zbk_x]
theorem d_41m {i : Nat} {t : yT} {x1 : Int32} (hc : zCls h m w) (hi : (ycur w).1[i]? = some t) (hx : x1 < 0 ∨ ¬ x1 < nI (ycur w).1.length) : zEnd h m (zcall zP sv (d + 48) 41 [.ref m, .int (nI i), .int x1] h) 1 6 (.inr 2) w := by
  obtain ⟨t1, t2⟩ := zthrow hc
  refine ⟨_, ?_, t1, t2⟩
  obtain ⟨a, e0, _⟩ := d_70k (sv := sv) (d := d + 45) hc hi
  have e1 := d_70n (sv := sv) (d := d + 45) hc hx
  simp (disch := exact znw_u) only [zc_41, zs_41_0, zs_41_1, zs_41_2, zs_41_5, zs_41_6, zs_41_7, zs_41_8, zs_41_11, zs_41_13, zs_41_14, zs_41_15, zs_41_18, zs_41_20, zs_41_22, zs_41_25, zs_41_26, zs_41_29, zEC1 hc, e0, e1, zbk_v, zbk_x, zts_s]
theorem d_44m {i : Nat} {t : yT} {x1 : Int32} (hc : zCls h m w) (hi : (ycur w).1[i]? = some t) (hx : x1 < 0 ∨ ¬ x1 < nI (ycur w).1.length) : zEnd h m (zcall zP sv (d + 48) 44 [.ref m, .int (nI i), .int x1] h) 1 6 (.inr 2) w := by
  obtain ⟨t1, t2⟩ := zthrow hc
  refine ⟨_, ?_, t1, t2⟩
  obtain ⟨a, e0, _⟩ := d_70k (sv := sv) (d := d + 45) hc hi
  have e1 := d_70n (sv := sv) (d := d + 45) hc hx
  simp (disch := exact znw_u) only [zc_44, zs_44_0, zs_44_1, zs_44_2, zs_44_5, zs_44_6, zs_44_7, zs_44_8, zs_44_11, zs_44_13, zs_44_14, zs_44_16, zs_44_19, zs_44_21, zs_44_22, zs_44_23, zs_44_26, zs_44_28, zs_44_29, zs_44_32, zs_44_34, zs_44_37, zs_44_39, zs_44_41, zs_44_42, zs_44_43, zs_44_46, zs_44_49, zs_44_50, zEC1 hc, e0, e1, zbk_v, zbk_x, zts_s]
theorem d_38l {i : Nat} {t : yT} {c : Int32} (hc : zCls h m w) (hi : (ycur w).1[i]? = some t) (hl : ylet c = false) : zEnd h m (zcall zP sv (d + 48) 38 [.ref m, .int (nI i), .int c] h) 1 6 (.inr 1) w := by
  obtain ⟨t1, t2⟩ := zthrow hc
  refine ⟨_, ?_, t1, t2⟩
  obtain ⟨a, e0, _⟩ := d_70k (sv := sv) (d := d + 45) hc hi
  simp (disch := exact znw_u) only [zc_38, zs_38_0, zs_38_1, zs_38_2, zs_38_5, zs_38_6, zs_38_7, zs_38_10, zs_38_11, zs_38_13, zs_38_14, zs_38_16, zs_38_18, zs_38_19, zs_38_22, zs_38_25, zs_38_26, zs_38_28, zs_38_29, zs_38_32, zs_38_35, zs_38_38, zs_38_41, zs_38_44, zs_38_46, zEC1 hc, e0, d_72n hl, zbk_v, zbk_x, zts_s]
theorem d_47l {i : Nat} {t : yT} {c : Int32} (hc : zCls h m w) (hi : (ycur w).1[i]? = some t) (hl : ylet c = false) : zEnd h m (zcall zP sv (d + 48) 47 [.ref m, .int (nI i), .int c] h) 1 6 (.inr 1) w := by
  obtain ⟨t1, t2⟩ := zthrow hc
  refine ⟨_, ?_, t1, t2⟩
  obtain ⟨a, e0, _⟩ := d_70k (sv := sv) (d := d + 45) hc hi
  simp (disch := exact znw_u) only [zc_47, zs_47_0, zs_47_1, zs_47_2, zs_47_5, zs_47_6, zs_47_7, zs_47_10, zs_47_11, zs_47_14, zs_47_15, zs_47_16, zs_47_17, zs_47_20, zs_47_23, zs_47_26, zEC1 hc, e0, d_72n hl, zbk_v, zbk_x, zts_s]
theorem d_48l {i : Nat} {t : yT} {c : Int32} (hc : zCls h m w) (hi : (ycur w).1[i]? = some t) (hl : ylet c = false) : zEnd h m (zcall zP sv (d + 48) 48 [.ref m, .int (nI i), .int c] h) 1 6 (.inr 1) w := by
  obtain ⟨t1, t2⟩ := zthrow hc
  refine ⟨_, ?_, t1, t2⟩
  obtain ⟨a, e0, _⟩ := d_70k (sv := sv) (d := d + 45) hc hi
  simp (disch := exact znw_u) only [zc_48, zs_48_0, zs_48_1, zs_48_2, zs_48_5, zs_48_6, zs_48_7, zs_48_10, zs_48_11, zs_48_14, zs_48_15, zs_48_16, zs_48_17, zs_48_20, zs_48_23, zs_48_25, zs_48_26, zs_48_29, zs_48_30, zs_48_33, zs_48_35, zs_48_36, zs_48_39, zs_48_42, zs_48_45, zEC1 hc, e0, d_72n hl, zbk_v, zbk_x, zts_s]
theorem zEnd_q {h' : zH} {r : zR} {o : zO} {A B C : List Int32} (hc : zCls h m w) (hr : r = some (o, h')) (hf : zfr (m + 78) (m + 85) h h') (hg : zGau h' (m + 78) A B C) : zEnd h m r 0 0 o w := ⟨h', hr, zCls_g hc hf hg, zfr_fx hf (by omega) (by omega)⟩
theorem zEnd_s {r : zR} {o : zO} (hc : zCls h m w) (hr : r = some (o, h)) : zEnd h m r 0 0 o w := ⟨h, hr, hc, zfx_rfl⟩
theorem zgau_ex (hc : zCls h m w) : ∃ A B C, zGau h (m + 78) A B C := hc.2.2.2.2.2.2.1.2.2.2.1
theorem zcur_ex (hc : zCls h m w) : ∃ S, zSta h (m + 3) S ∧ zAS h m S (ycur w) := hc.2.2.1
theorem d_36 {i : Nat} {t : yT} (hc : zCls h m w) (hi : (ycur w).1[i]? = some t) : zEnd h m (zcall zP sv (d + 48) 36 [.ref m, .int (nI i)] h) 0 0 (.inl (some (.int (nI (ysz t))))) w := by
  obtain ⟨a, e0, a1, a2, a3, a4⟩ := d_70k (sv := sv) (d := d + 45) hc hi
  have e1 := d_182 (sv := sv) (d := d + 46) a3
  rw [ypo_len] at e1
  refine zEnd_s hc ?_
  simp (disch := exact znw_u) only [zc_36, zs_36_0, zs_36_1, zs_36_2, zs_36_5, zs_36_8, zEC1 hc, e0, zTre_rc a3, e1, zbk_v, zts_s]
theorem d_37 {i : Nat} {t : yT} (hc : zCls h m w) (hi : (ycur w).1[i]? = some t) : zEnd h m (zcall zP sv (d + 48) 37 [.ref m, .int (nI i)] h) 0 0 (.inl (some (.int (nI (ydp t))))) w := by
  have q1 := zCls_0 hc
  obtain ⟨a, e0, a1, a2, a3, a4⟩ := d_70k (sv := sv) (d := d + 45) hc hi
  have hsz := a4.2.1
  have hdp := a4.2.2
  obtain ⟨f1, f2, f3, f4⟩ := yform a4.1 (by omega)
  obtain ⟨A, B, C, hg⟩ := zgau_ex hc
  obtain ⟨h1, A', e1, g1, r1, f5⟩ := d_118 (sv := sv) (d := d + 43) (rt := nI (ysz t - 1)) f1 (by omega) (by omega) a3 hg
  rw [yQ_g r1 (Or.inr ⟨ysz t - 1, by omega, rfl⟩) (Nat.le_refl _) f1.1, f2, yfo_L t (by omega)] at e1
  refine zEnd_q hc ?_ f5 g1
  simp (disch := exact znw_u) only [zc_37, zs_37_0, zs_37_1, zs_37_2, zs_37_5, zs_37_6, zs_37_7, zs_37_10, zs_37_11, zs_37_12, zs_37_15, zs_37_18, q1, zECc, zrc_1, zf_1_0, zp_1_0, zp_1_0n, zf_1_1, zp_1_1, zf_1_2, zp_1_2, zp_1_2n, zf_1_3, zp_1_3, zp_1_3n, zf_1_4, zp_1_40, zp_1_41, zf_1_5, zp_1_5, zp_1_5n, zf_1_6, zp_1_6, zp_1_6n, zf_1_7, zp_1_7, zp_1_7n, zf_1_8, zp_1_8, zp_1_8n, zf_1_9, zp_1_9, zp_1_9n, zf_1_10, zp_1_10, zp_1_10n, zf_1_11, zp_1_11, zp_1_11n, zf_1_12, zp_1_12, zp_1_12n, zEC1 hc, e0, zTre_rc a3, d_183 a3, yroot_sub f4, zGau_rc hg, e1, zbk_v, zts_s]
theorem d_39 {i : Nat} {t : yT} (hc : zCls h m w) (hi : (ycur w).1[i]? = some t) : zEnd h m (zcall zP sv (d + 48) 39 [.ref m, .int (nI i)] h) 0 0 (.inl (some (.int (yfo yfP t)))) w := by
  have q1 := zCls_0 hc
  obtain ⟨a, e0, a1, a2, a3, a4⟩ := d_70k (sv := sv) (d := d + 45) hc hi
  have hsz := a4.2.1
  obtain ⟨f1, f2, f3, f4⟩ := yform a4.1 (by omega)
  obtain ⟨A, B, C, hg⟩ := zgau_ex hc
  obtain ⟨h1, A', e1, g1, r1, f5⟩ := d_119 (sv := sv) (d := d + 43) f1 (by omega) (by omega) a3 hg
  rw [yroot_sub f4, yQ_g r1 (Or.inr ⟨ysz t - 1, by omega, rfl⟩) (Nat.le_refl _) f1.1, f2] at e1
  refine zEnd_q hc ?_ f5 g1
  simp (disch := exact znw_u) only [zc_39, zs_39_0, zs_39_1, zs_39_4, zs_39_5, zs_39_6, zs_39_9, zs_39_12, q1, zECc, zrc_1, zf_1_0, zp_1_0, zp_1_0n, zf_1_1, zp_1_1, zf_1_2, zp_1_2, zp_1_2n, zf_1_3, zp_1_3, zp_1_3n, zf_1_4, zp_1_40, zp_1_41, zf_1_5, zp_1_5, zp_1_5n, zf_1_6, zp_1_6, zp_1_6n, zf_1_7, zp_1_7, zp_1_7n, zf_1_8, zp_1_8, zp_1_8n, zf_1_9, zp_1_9, zp_1_9n, zf_1_10, zp_1_10, zp_1_10n, zf_1_11, zp_1_11, zp_1_11n, zf_1_12, zp_1_12, zp_1_12n, zEC1 hc, e0, zGau_rc hg, e1, zbk_v, zts_s]
theorem d_49 {i : Nat} {t : yT} (hc : zCls h m w) (hi : (ycur w).1[i]? = some t) : zEnd h m (zcall zP sv (d + 48) 49 [.ref m, .int (nI i)] h) 0 0 (.inl (some (.int (yfo yfD t)))) w := by
  have q1 := zCls_0 hc
  obtain ⟨a, e0, a1, a2, a3, a4⟩ := d_70k (sv := sv) (d := d + 45) hc hi
  have hsz := a4.2.1
  obtain ⟨f1, f2, f3, f4⟩ := yform a4.1 (by omega)
  obtain ⟨A, B, C, hg⟩ := zgau_ex hc
  obtain ⟨h1, A', e1, g1, r1, f5⟩ := d_125 (sv := sv) (d := d + 43) f1 (by omega) (by omega) a3 hg
  rw [yroot_sub f4, yQ_g r1 (Or.inr ⟨ysz t - 1, by omega, rfl⟩) (Nat.le_refl _) f1.1, f2] at e1
  refine zEnd_q hc ?_ f5 g1
  simp (disch := exact znw_u) only [zc_49, zs_49_0, zs_49_1, zs_49_4, zs_49_5, zs_49_6, zs_49_9, zs_49_12, q1, zECc, zrc_1, zf_1_0, zp_1_0, zp_1_0n, zf_1_1, zp_1_1, zf_1_2, zp_1_2, zp_1_2n, zf_1_3, zp_1_3, zp_1_3n, zf_1_4, zp_1_40, zp_1_41, zf_1_5, zp_1_5, zp_1_5n, zf_1_6, zp_1_6, zp_1_6n, zf_1_7, zp_1_7, zp_1_7n, zf_1_8, zp_1_8, zp_1_8n, zf_1_9, zp_1_9, zp_1_9n, zf_1_10, zp_1_10, zp_1_10n, zf_1_11, zp_1_11, zp_1_11n, zf_1_12, zp_1_12, zp_1_12n, zEC1 hc, e0, zGau_rc hg, e1, zbk_v, zts_s]
theorem d_50 {i : Nat} {t : yT} (hc : zCls h m w) (hi : (ycur w).1[i]? = some t) : zEnd h m (zcall zP sv (d + 48) 50 [.ref m, .int (nI i)] h) 0 0 (.inl (some (.int (yfo yfO t)))) w := by
  have q1 := zCls_0 hc
  obtain ⟨a, e0, a1, a2, a3, a4⟩ := d_70k (sv := sv) (d := d + 45) hc hi
  have hsz := a4.2.1
  obtain ⟨f1, f2, f3, f4⟩ := yform a4.1 (by omega)
  obtain ⟨A, B, C, hg⟩ := zgau_ex hc
  obtain ⟨h1, A', e1, g1, r1, f5⟩ := d_128 (sv := sv) (d := d + 43) f1 (by omega) (by omega) a3 hg
  rw [yroot_sub f4, yQ_g r1 (Or.inr ⟨ysz t - 1, by omega, rfl⟩) (Nat.le_refl _) f1.1, f2] at e1
  refine zEnd_q hc ?_ f5 g1
  simp (disch := exact znw_u) only [zc_50, zs_50_0, zs_50_1, zs_50_4, zs_50_5, zs_50_6, zs_50_9, zs_50_12, q1, zECc, zrc_1, zf_1_0, zp_1_0, zp_1_0n, zf_1_1, zp_1_1, zf_1_2, zp_1_2, zp_1_2n, zf_1_3, zp_1_3, zp_1_3n, zf_1_4, zp_1_40, zp_1_41, zf_1_5, zp_1_5, zp_1_5n, zf_1_6, zp_1_6, zp_1_6n, zf_1_7, zp_1_7, zp_1_7n, zf_1_8, zp_1_8, zp_1_8n, zf_1_9, zp_1_9, zp_1_9n, zf_1_10, zp_1_10, zp_1_10n, zf_1_11, zp_1_11, zp_1_11n, zf_1_12, zp_1_12, zp_1_12n, zEC1 hc, e0, zGau_rc hg, e1, zbk_v, zts_s]
theorem d_170 {s : Nat} {S : yS} (hs : zSta h s S) : zcall zP sv (d + 1) 170 [.ref s] h = some (.inl (some (.ref (s + 2))), h) := by
  simp only [zc_170, zs_170_0, zs_170_0n, zs_170_1, zs_170_4, zs_170_4n, hs.1, zrc_3, zf_3_0, zp_3_0, zp_3_0n, zf_3_1, zp_3_1, zf_3_2, zp_3_2, zp_3_2n, zf_3_3, zp_3_3, zf_3_4, zp_3_4]
theorem d_171 {s : Nat} {S : yS} (hs : zSta h s S) : zcall zP sv (d + 1) 171 [.ref s] h = some (.inl (some (.int S.2.2.1)), h) := by
  simp only [zc_171, zs_171_0, zs_171_0n, zs_171_1, zs_171_4, hs.1, zrc_3, zf_3_0, zp_3_0, zp_3_0n, zf_3_1, zp_3_1, zf_3_2, zp_3_2, zp_3_2n, zf_3_3, zp_3_3, zf_3_4, zp_3_4]
theorem d_172 {s : Nat} {S : yS} (hs : zSta h s S) : zcall zP sv (d + 1) 172 [.ref s] h = some (.inl (some (.int S.2.2.2)), h) := by
  simp only [zc_172, zs_172_0, zs_172_0n, zs_172_1, zs_172_4, hs.1, zrc_3, zf_3_0, zp_3_0, zp_3_0n, zf_3_1, zp_3_1, zf_3_2, zp_3_2, zp_3_2n, zf_3_3, zp_3_3, zf_3_4, zp_3_4]
theorem d_169 {s : Nat} {S : yS} (hs : zSta h s S) : zcall zP sv (d + 1) 169 [.ref s] h = some (.inl (some (.int (nI S.1.length))), h) := by
  simp only [zc_169, zs_169_0, zs_169_0n, zs_169_1, zs_169_4, hs.1, zrc_3, zf_3_0, zp_3_0, zp_3_0n, zf_3_1, zp_3_1, zf_3_2, zp_3_2, zp_3_2n, zf_3_3, zp_3_3, zf_3_4, zp_3_4]
theorem d_45 {i : Nat} {t : yT} (hc : zCls h m w) (hi : (ycur w).1[i]? = some t) : zEnd h m (zcall zP sv (d + 48) 45 [.ref m, .int (nI i)] h) 0 0 (.inl (some (.int (yfo (yfR (ycur w).2.1) t)))) w := by
  have q1 := zCls_0 hc
  obtain ⟨a, e0, a1, a2, a3, a4⟩ := d_70k (sv := sv) (d := d + 45) hc hi
  have hsz := a4.2.1
  obtain ⟨f1, f2, f3, f4⟩ := yform a4.1 (by omega)
  obtain ⟨A, B, C, hg⟩ := zgau_ex hc
  obtain ⟨S, s1, s2⟩ := zcur_ex hc
  have hV : S.2.1 = (ycur w).2.1 := by rw [s2.1]
  have s3 := s1.2.2.1
  rw [hV] at s3
  obtain ⟨h1, A', e1, g1, r1, f5⟩ := d_121 (sv := sv) (d := d + 43) (rt := nI (ysz t - 1)) f1 (by omega) (by omega) (show m + 78 + 7 ≤ m + 3 + 2 ∨ m + 3 + 2 + 2 ≤ m + 78 by omega) a3 hg s3
  rw [yQ_g r1 (Or.inr ⟨ysz t - 1, by omega, rfl⟩) (Nat.le_refl _) f1.1, f2] at e1
  refine zEnd_q hc ?_ f5 g1
  simp (disch := exact znw_u) only [zc_45, zs_45_0, zs_45_1, zs_45_2, zs_45_5, zs_45_6, zs_45_7, zs_45_10, zs_45_11, zs_45_12, zs_45_15, zs_45_16, zs_45_19, zs_45_22, zs_45_25, q1, zECc, zrc_1, zf_1_0, zp_1_0, zp_1_0n, zf_1_1, zp_1_1, zf_1_2, zp_1_2, zp_1_2n, zf_1_3, zp_1_3, zp_1_3n, zf_1_4, zp_1_40, zp_1_41, zf_1_5, zp_1_5, zp_1_5n, zf_1_6, zp_1_6, zp_1_6n, zf_1_7, zp_1_7, zp_1_7n, zf_1_8, zp_1_8, zp_1_8n, zf_1_9, zp_1_9, zp_1_9n, zf_1_10, zp_1_10, zp_1_10n, zf_1_11, zp_1_11, zp_1_11n, zf_1_12, zp_1_12, zp_1_12n, zEC1 hc, e0, zTre_rc a3, d_183 a3, yroot_sub f4, zSta_rc s1, d_170 s1, zGau_rc hg, e1, zbk_v, zts_s]
theorem d_33 (hc : zCls h m w) : zEnd h m (zcall zP sv (d + 48) 33 [.ref m] h) 0 0 (.inl (some (.int (nI (ycur w).1.length)))) w := by
  have q1 := zCls_0 hc
  obtain ⟨S, s1, s2⟩ := zcur_ex hc
  have hl : S.1.length = (ycur w).1.length := s2.2.1.1
  have e1 := d_169 (sv := sv) (d := d + 46) s1
  rw [hl] at e1
  refine zEnd_s hc ?_
  simp (disch := exact znw_u) only [zc_33, zs_33_0, zs_33_1, zs_33_4, zs_33_7, q1, zECc, zrc_1, zf_1_0, zp_1_0, zp_1_0n, zf_1_1, zp_1_1, zf_1_2, zp_1_2, zp_1_2n, zf_1_3, zp_1_3, zp_1_3n, zf_1_4, zp_1_40, zp_1_41, zf_1_5, zp_1_5, zp_1_5n, zf_1_6, zp_1_6, zp_1_6n, zf_1_7, zp_1_7, zp_1_7n, zf_1_8, zp_1_8, zp_1_8n, zf_1_9, zp_1_9, zp_1_9n, zf_1_10, zp_1_10, zp_1_10n, zf_1_11, zp_1_11, zp_1_11n, zf_1_12, zp_1_12, zp_1_12n, zSta_rc s1, e1, zbk_v, zts_s]
theorem d_35 (hc : zCls h m w) : zEnd h m (zcall zP sv (d + 48) 35 [.ref m] h) 0 0 (.inl (some (.int (ycur w).2.2.1))) w := by
  have q1 := zCls_0 hc
  obtain ⟨S, s1, s2⟩ := zcur_ex hc
  have e1 := d_171 (sv := sv) (d := d + 46) s1
  rw [s2.1] at e1
  refine zEnd_s hc ?_
  simp (disch := exact znw_u) only [zc_35, zs_35_0, zs_35_1, zs_35_4, zs_35_7, q1, zECc, zrc_1, zf_1_0, zp_1_0, zp_1_0n, zf_1_1, zp_1_1, zf_1_2, zp_1_2, zp_1_2n, zf_1_3, zp_1_3, zp_1_3n, zf_1_4, zp_1_40, zp_1_41, zf_1_5, zp_1_5, zp_1_5n, zf_1_6, zp_1_6, zp_1_6n, zf_1_7, zp_1_7, zp_1_7n, zf_1_8, zp_1_8, zp_1_8n, zf_1_9, zp_1_9, zp_1_9n, zf_1_10, zp_1_10, zp_1_10n, zf_1_11, zp_1_11, zp_1_11n, zf_1_12, zp_1_12, zp_1_12n, zSta_rc s1, e1, zbk_v, zts_s]
theorem d_61 (hc : zCls h m w) : zEnd h m (zcall zP sv (d + 48) 61 [.ref m] h) 0 0 (.inl (some (.int (ycur w).2.2.2))) w := by
  have q1 := zCls_0 hc
  obtain ⟨S, s1, s2⟩ := zcur_ex hc
  have e1 := d_172 (sv := sv) (d := d + 46) s1
  rw [s2.1] at e1
  refine zEnd_s hc ?_
  simp (disch := exact znw_u) only [zc_61, zs_61_0, zs_61_1, zs_61_4, zs_61_7, q1, zECc, zrc_1, zf_1_0, zp_1_0, zp_1_0n, zf_1_1, zp_1_1, zf_1_2, zp_1_2, zp_1_2n, zf_1_3, zp_1_3, zp_1_3n, zf_1_4, zp_1_40, zp_1_41, zf_1_5, zp_1_5, zp_1_5n, zf_1_6, zp_1_6, zp_1_6n, zf_1_7, zp_1_7, zp_1_7n, zf_1_8, zp_1_8, zp_1_8n, zf_1_9, zp_1_9, zp_1_9n, zf_1_10, zp_1_10, zp_1_10n, zf_1_11, zp_1_11, zp_1_11n, zf_1_12, zp_1_12, zp_1_12n, zSta_rc s1, e1, zbk_v, zts_s]
theorem d_34n {c : Int32} (hc : zCls h m w) (hl : ylet c = false) : zEnd h m (zcall zP sv (d + 48) 34 [.ref m, .int c] h) 1 6 (.inr 1) w := by
  obtain ⟨t1, t2⟩ := zthrow hc
  refine ⟨_, ?_, t1, t2⟩
  simp (disch := exact znw_u) only [zc_34, zs_34_0, zs_34_1, zs_34_4, zs_34_5, zs_34_8, zs_34_11, zs_34_12, zs_34_14, zs_34_15, zs_34_18, d_72n hl, zbk_x]
theorem d_34 {c : Int32} (hc : zCls h m w) (hl : ylet c = true) : zEnd h m (zcall zP sv (d + 48) 34 [.ref m, .int c] h) 0 0 (.inl (some (.int (yg (ycur w).2.1 (c - nI 97))))) w := by
  have q1 := zCls_0 hc
  obtain ⟨S, s1, s2⟩ := zcur_ex hc
  have hV : S.2.1 = (ycur w).2.1 := by rw [s2.1]
  have s3 := s1.2.2.1
  have e1 := d_165 (sv := sv) (d := d + 46) (x := c - nI 97) s3
  rw [hV] at e1
  refine zEnd_s hc ?_
  simp (disch := exact znw_u) only [zc_34, zs_34_0, zs_34_1, zs_34_4, zs_34_5, zs_34_8, zs_34_11, zs_34_12, zs_34_14, zs_34_15, zs_34_18, d_72 hl, q1, zECc, zrc_1, zf_1_0, zp_1_0, zp_1_0n, zf_1_1, zp_1_1, zf_1_2, zp_1_2, zp_1_2n, zf_1_3, zp_1_3, zp_1_3n, zf_1_4, zp_1_40, zp_1_41, zf_1_5, zp_1_5, zp_1_5n, zf_1_6, zp_1_6, zp_1_6n, zf_1_7, zp_1_7, zp_1_7n, zf_1_8, zp_1_8, zp_1_8n, zf_1_9, zp_1_9, zp_1_9n, zf_1_10, zp_1_10, zp_1_10n, zf_1_11, zp_1_11, zp_1_11n, zf_1_12, zp_1_12, zp_1_12n, zSta_rc s1, d_170 s1, zRow_rc s3, e1, zbk_v, zts_s, zts_n]
theorem d_66 (hc : zCls h m w) : zEnd h m (zcall zP sv (d + 48) 66 [.ref m] h) 0 0 (.inl (some (.int (nI (yhis w).length)))) w := by
  have q1 := zCls_0 hc
  obtain ⟨_, _, _, _, ⟨H, g1, g2⟩, _⟩ := id hc
  have hl : H.length = (yhis w).length := g2.1
  have e1 := d_131 (sv := sv) (d := d + 46) g1
  rw [hl] at e1
  refine zEnd_s hc ?_
  simp (disch := exact znw_u) only [zc_66, zs_66_0, zs_66_1, zs_66_4, zs_66_7, q1, zECc, zrc_1, zf_1_0, zp_1_0, zp_1_0n, zf_1_1, zp_1_1, zf_1_2, zp_1_2, zp_1_2n, zf_1_3, zp_1_3, zp_1_3n, zf_1_4, zp_1_40, zp_1_41, zf_1_5, zp_1_5, zp_1_5n, zf_1_6, zp_1_6, zp_1_6n, zf_1_7, zp_1_7, zp_1_7n, zf_1_8, zp_1_8, zp_1_8n, zf_1_9, zp_1_9, zp_1_9n, zf_1_10, zp_1_10, zp_1_10n, zf_1_11, zp_1_11, zp_1_11n, zf_1_12, zp_1_12, zp_1_12n, zHis_rc g1, e1, zbk_v, zts_s]
theorem d_65n (hc : zCls h m w) (he : w.2.1 = -1) : zEnd h m (zcall zP sv (d + 48) 65 [.ref m] h) 1 6 (.inr 4) w := by
  obtain ⟨t1, t2⟩ := zthrow hc
  have q1 := zCls_0 hc
  rw [he] at q1
  refine ⟨_, ?_, t1, t2⟩
  simp (disch := exact znw_u) only [zc_65, zs_65_0, zs_65_1, zs_65_4, zs_65_5, zs_65_8, zs_65_19, zs_65_20, zs_65_23, q1, zECc, zrc_1, zf_1_0, zp_1_0, zp_1_0n, zf_1_1, zp_1_1, zf_1_2, zp_1_2, zp_1_2n, zf_1_3, zp_1_3, zp_1_3n, zf_1_4, zp_1_40, zp_1_41, zf_1_5, zp_1_5, zp_1_5n, zf_1_6, zp_1_6, zp_1_6n, zf_1_7, zp_1_7, zp_1_7n, zf_1_8, zp_1_8, zp_1_8n, zf_1_9, zp_1_9, zp_1_9n, zf_1_10, zp_1_10, zp_1_10n, zf_1_11, zp_1_11, zp_1_11n, zf_1_12, zp_1_12, zp_1_12n, nI_m1e, zext_of, ↓reduceIte]
theorem d_65 (hc : zCls h m w) (he : ¬ w.2.1 = -1) : zEnd h m (zcall zP sv (d + 48) 65 [.ref m] h) 0 0 (.inl (some (.int w.2.1))) w := by
  have q1 := zCls_0 hc
  refine zEnd_s hc ?_
  simp (disch := exact znw_u) only [zc_65, zs_65_0, zs_65_1, zs_65_4, zs_65_5, zs_65_8, zs_65_19, zs_65_20, zs_65_23, q1, zECc, zrc_1, zf_1_0, zp_1_0, zp_1_0n, zf_1_1, zp_1_1, zf_1_2, zp_1_2, zp_1_2n, zf_1_3, zp_1_3, zp_1_3n, zf_1_4, zp_1_40, zp_1_41, zf_1_5, zp_1_5, zp_1_5n, zf_1_6, zp_1_6, zp_1_6n, zf_1_7, zp_1_7, zp_1_7n, zf_1_8, zp_1_8, zp_1_8n, zf_1_9, zp_1_9, zp_1_9n, zf_1_10, zp_1_10, zp_1_10n, zf_1_11, zp_1_11, zp_1_11n, zf_1_12, zp_1_12, zp_1_12n, if_neg he]
theorem d_41 {i j : Nat} {t u : yT} (hc : zCls h m w) (hi : (ycur w).1[i]? = some t) (hj : (ycur w).1[j]? = some u) : zEnd h m (zcall zP sv (d + 48) 41 [.ref m, .int (nI i), .int (nI j)] h) 0 0 (.inl (some (.int (yb (yeq t u))))) w := by
  obtain ⟨a, e0, a1, a2, a3, a4⟩ := d_70k (sv := sv) (d := d + 45) hc hi
  obtain ⟨b, e0', b1, b2, b3, b4⟩ := d_70k (sv := sv) (d := d + 45) hc hj
  have hsz := a4.2.1
  have hdp := a4.2.2
  have hsz2 := b4.2.1
  obtain ⟨f1, f2, f3, f4⟩ := yform a4.1 (by omega)
  obtain ⟨g1, g2, g3, g4⟩ := yform b4.1 (by omega)
  have e5 := d_85 (sv := sv) f1 g1 a3 b3 t u (nI (ysz t - 1)) (nI (ysz u - 1)) (d + 47) 1 (Or.inr ⟨ysz t - 1, by omega, rfl⟩) (Or.inr ⟨ysz u - 1, by omega, rfl⟩) f2 g2 (by omega) (by omega)
  refine zEnd_s hc ?_
  simp (disch := exact znw_u) only [zc_41, zs_41_0, zs_41_1, zs_41_2, zs_41_5, zs_41_6, zs_41_7, zs_41_8, zs_41_11, zs_41_13, zs_41_14, zs_41_15, zs_41_18, zs_41_20, zs_41_22, zs_41_25, zs_41_26, zs_41_29, zEC1 hc, e0, e0', zTre_rc a3, zTre_rc b3, d_183 a3, d_183 b3, yroot_sub f4, yroot_sub g4, e5, zty_5b, zgd_t, zbk_v, zts_s]
end ZEF
