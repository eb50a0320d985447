section ZCH
variable {sv : Nat → Value} {d : Nat} {CC : zCall}
theorem c_165k {h : zH} {r q i : Nat} {vs : List Value} {y : Int32} (hr : h.1 r = (4, [.ref q])) (hq : h.1 q = (20, vs)) (hl : vs.length < 2 ^ 31) (hv : vs[i]? = some (.int y)) : zcall zP sv (d + 1) 165 [.ref r, .int (nI i)] h = some (.inl (some (.int y)), h) := by
  have hi := (List.getElem?_eq_some_iff.mp hv).1
  rw [zc_165, zs_165_0, zs_165_1, if_neg (nI_pos (by omega)), zs_165_4, zs_165_5, zs_165_6, hr, zf_4_0, zs_165_9, hq, zaln_k (by decide), zs_165_10, if_pos (nI_lt hi hl), zs_165_13, zs_165_14, hr, zf_4_0, zs_165_17, zs_165_18, hq, zael_k hv (by omega), zs_165_19, zs_165_23]
theorem c_167l {r p q t : Nat} {A : List Value} (hpq : p ≠ q) (hrq : r ≠ q) (htq : t ≠ q) (hl : A.length < 2 ^ 31) (hi : ∀ i, i < A.length → ∃ y : Int32, A[i]? = some (.int y)) : ∀ n i (h : zH) (B : List Value), i + n = A.length → h.1 r = (4, [.ref q]) → h.1 t = (4, [.ref p]) → h.1 p = (20, A) → h.1 q = (20, B) → B.length = A.length → (∀ j, j < i → B[j]? = A[j]?) → zrun zP sv (zcall zP sv (d + 1)) 167 2 [.val (.ref r), .val (.ref t), .val (.int (nI i))] [] h = some (.inl none, zup h q (20, A)) := by
  intro n
  induction n with
  | zero =>
    intro i h B hin hr ht hp hq hB he
    obtain rfl : i = A.length := by omega
    have e0 : B = A := List.ext_getElem? fun j => by
      by_cases hj : j < A.length
      · exact he j hj
      · rw [List.getElem?_eq_none (by omega), List.getElem?_eq_none (by omega)]
    subst e0
    rw [zs_167_2, zs_167_3, zs_167_4, hr, zf_4_0, zs_167_7, hq, zaln_k (by decide), zs_167_8, if_neg (nI_nlt (by omega) (by omega)), zs_167_28, zup_self hq]
  | succ n ih =>
    intro i h B hin hr ht hp hq hB he
    obtain ⟨y, hy⟩ := hi i (by omega)
    have e1 : zrun zP sv (zcall zP sv (d + 1)) 167 2 [.val (.ref r), .val (.ref t), .val (.int (nI i))] [] h = zrun zP sv (zcall zP sv (d + 1)) 167 2 [.val (.ref r), .val (.ref t), .val (.int (nI (i + 1)))] [] (zup h q (20, B.set i (.int y))) := by
      rw [zs_167_2, zs_167_3, zs_167_4, hr, zf_4_0, zs_167_7, hq, zaln_k (by decide), zs_167_8, hB, if_pos (nI_lt (by omega) (by omega)), zs_167_11, zs_167_12, hr, zf_4_0, zs_167_15, zs_167_16, zs_167_17, zs_167_18, ht, zrc_4, c_165k ht hp hl hy, zbk_v, zts_s, zs_167_21, hq, zaset_k (by omega) (by omega), zs_167_22, zs_167_25, nI_1']
    rw [e1, ih (i + 1) _ (B.set i (.int y)) (by omega) (by rw [zup_ne hrq, hr]) (by rw [zup_ne htq, ht]) (by rw [zup_ne hpq, hp]) zup_at (by rw [List.length_set, hB]) fun j hj => ?_, zup_up]
    by_cases hj2 : j = i
    · subst hj2
      rw [List.getElem?_set_self (by omega), hy]
    · rw [List.getElem?_set_ne (by omega), he j (by omega)]
theorem c_167x {h : zH} {r p q t : Nat} {A B : List Value} (hr : h.1 r = (4, [.ref q])) (ht : h.1 t = (4, [.ref p])) (hp : h.1 p = (20, A)) (hq : h.1 q = (20, B)) (hpq : p ≠ q) (hrq : r ≠ q) (htq : t ≠ q) (hl : A.length < 2 ^ 31) (hB : B.length = A.length) (hi : ∀ i, i < A.length → ∃ y : Int32, A[i]? = some (.int y)) : zcall zP sv (d + 2) 167 [.ref r, .ref t] h = some (.inl none, zup h q (20, A)) := by
  have e1 := c_167l (sv := sv) (d := d) hpq hrq htq hl hi A.length 0 h B (Nat.zero_add _) hr ht hp hq hB (fun j hj => absurd hj (Nat.not_lt_zero j))
  rw [nI_0] at e1
  rw [zc_167, zs_167_0, zs_167_1 znw_u, e1]
theorem zasn_k {kd i : Nat} {vs : List Value} {K : zC → zR} (hi : i < vs.length) (h2 : i < 2 ^ 31) : zasn (kd, vs) kd (nI i) K = K (kd, vs.set i .null) := by
  unfold zasn zix
  rw [nI_clamp h2, if_pos ⟨rfl, by rw [decide_eq_true (nI_pos h2), decide_eq_true hi]; rfl⟩]
theorem c_180l {r s f : Nat} {w2 w3 w4 u0 u2 u3 u4 : Value} (hrf : r ≠ f) (hsf : s ≠ f) : ∀ n i (h : zH) (B : List Value), i + n = 6 → h.1 r = (3, [.ref f, .int 0, w2, w3, w4]) → h.1 s = (3, [u0, .int 0, u2, u3, u4]) → h.1 f = (25, B) → B.length = 6 → (∀ j, j < i → B[j]? = some .null) → zrun zP sv (zcall zP sv (d + 1)) 180 10 [.val (.ref r), .val (.ref s), .val (.int (nI i))] [] h = zrun zP sv (zcall zP sv (d + 1)) 180 36 [.val (.ref r), .val (.ref s), .val (.int (nI 6))] [] (zup h f (25, List.replicate 6 .null)) := by
  intro n
  induction n with
  | zero =>
    intro i h B hin hr hs hf hB he
    obtain rfl : i = 6 := by omega
    have e0 : B = List.replicate 6 .null := List.ext_getElem? fun j => by
      by_cases hj : j < 6
      · rw [he j hj, List.getElem?_replicate_of_lt hj]
      · rw [List.getElem?_eq_none (by omega), List.getElem?_eq_none (by rw [List.length_replicate]; omega)]
    subst e0
    rw [zs_180_10, zs_180_11, zs_180_12, hr, zf_3_0, zs_180_15, hf, zaln_k (by decide), zs_180_16, if_neg (nI_nlt (by omega) (by omega)), zup_self hf]
  | succ n ih =>
    intro i h B hin hr hs hf hB he
    have e1 : zrun zP sv (zcall zP sv (d + 1)) 180 10 [.val (.ref r), .val (.ref s), .val (.int (nI i))] [] h = zrun zP sv (zcall zP sv (d + 1)) 180 10 [.val (.ref r), .val (.ref s), .val (.int (nI (i + 1)))] [] (zup h f (25, B.set i .null)) := by
      rw [zs_180_10, zs_180_11, zs_180_12, hr, zf_3_0, zs_180_15, hf, zaln_k (by decide), zs_180_16, hB, if_pos (nI_lt (by omega) (by omega)), zs_180_19, zs_180_20, hr, zf_3_0, zs_180_23, zs_180_24, zs_180_25, zs_180_26, hs, zrc_3, c_173x hs, zbk_v, zts_s, zs_180_29n, hf, zasn_k (by omega) (by omega), zs_180_30, zs_180_33, nI_1']
    rw [e1, ih (i + 1) _ (B.set i .null) (by omega) (by rw [zup_ne hrf, hr]) (by rw [zup_ne hsf, hs]) zup_at (by rw [List.length_set, hB]) fun j hj => ?_, zup_up]
    by_cases hj2 : j = i
    · subst hj2
      rw [List.getElem?_set_self (by omega)]
    · rw [List.getElem?_set_ne (by omega), he j (by omega)]
theorem c_180x {h : zH} {r f l a s g m b : Nat} {w1 : Value} {x3 x4 u3 u4 : Int32} {F A B : List Value} (hr : h.1 r = (3, [.ref f, w1, .ref l, .int x3, .int x4])) (hs : h.1 s = (3, [.ref g, .int 0, .ref m, .int u3, .int u4])) (hf : h.1 f = (25, F)) (hl : h.1 l = (4, [.ref a])) (hm : h.1 m = (4, [.ref b])) (ha : h.1 a = (20, A)) (hb : h.1 b = (20, B)) (hF : F.length = 6) (hA : A.length = 6) (hB : B.length = 6) (hi : ∀ i, i < B.length → ∃ y : Int32, B[i]? = some (.int y))
    (n1 : r ≠ f) (n2 : r ≠ s) (n3 : r ≠ l) (n4 : r ≠ m) (n5 : r ≠ a) (n6 : r ≠ b) (n7 : f ≠ s) (n8 : f ≠ l) (n9 : f ≠ m) (na : f ≠ a) (nb : f ≠ b) (nc : a ≠ s) (nd : a ≠ l) (ne : a ≠ m) (nf : a ≠ b) : zcall zP sv (d + 3) 180 [.ref r, .ref s] h = some (.inl none, zup (zup (zup h f (25, List.replicate 6 .null)) a (20, B)) r (3, [.ref f, .int 0, .ref l, .int u3, .int u4])) := by
  have hr1 : (zup h r (3, [.ref f, .int 0, .ref l, .int x3, .int x4])).1 r = (3, [.ref f, .int 0, .ref l, .int x3, .int x4]) := zup_at
  have e1 := c_180l (sv := sv) (d := d + 1) (n1) (Ne.symm n7) 6 0 (zup h r (3, [.ref f, .int 0, .ref l, .int x3, .int x4])) F rfl hr1 (by rw [zup_ne (Ne.symm n2), hs]) (by rw [zup_ne (Ne.symm n1), hf]) hF (fun j hj => absurd hj (Nat.not_lt_zero j))
  rw [nI_0] at e1
  rw [zc_180, zs_180_0, zs_180_1, zs_180_2, hs, zf_3_1, zs_180_5, hr, zp_3_1, zs_180_8, zs_180_9 znw_u, e1]
  have hr2 : (zup (zup h r (3, [.ref f, .int 0, .ref l, .int x3, .int x4])) f (25, List.replicate 6 .null)).1 r = (3, [.ref f, .int 0, .ref l, .int x3, .int x4]) := by rw [zup_ne n1, zup_at]
  have hs2 : (zup (zup h r (3, [.ref f, .int 0, .ref l, .int x3, .int x4])) f (25, List.replicate 6 .null)).1 s = (3, [.ref g, .int 0, .ref m, .int u3, .int u4]) := by rw [zup_ne (Ne.symm n7), zup_ne (Ne.symm n2), hs]
  have hl2 : (zup (zup h r (3, [.ref f, .int 0, .ref l, .int x3, .int x4])) f (25, List.replicate 6 .null)).1 l = (4, [.ref a]) := by rw [zup_ne (Ne.symm n8), zup_ne (Ne.symm n3), hl]
  have hm2 : (zup (zup h r (3, [.ref f, .int 0, .ref l, .int x3, .int x4])) f (25, List.replicate 6 .null)).1 m = (4, [.ref b]) := by rw [zup_ne (Ne.symm n9), zup_ne (Ne.symm n4), hm]
  have ha2 : (zup (zup h r (3, [.ref f, .int 0, .ref l, .int x3, .int x4])) f (25, List.replicate 6 .null)).1 a = (20, A) := by rw [zup_ne (Ne.symm na), zup_ne (Ne.symm n5), ha]
  have hb2 : (zup (zup h r (3, [.ref f, .int 0, .ref l, .int x3, .int x4])) f (25, List.replicate 6 .null)).1 b = (20, B) := by rw [zup_ne (Ne.symm nb), zup_ne (Ne.symm n6), hb]
  rw [zs_180_36, zs_180_37, hr2, zf_3_2, zs_180_40, zs_180_41, hs2, zf_3_2, zs_180_44, hl2, zrc_4, c_167x hl2 hm2 hb2 ha2 (Ne.symm nf) (Ne.symm nd) (Ne.symm ne) (by omega) (by omega) hi, zbk_v, zts_n]
  have hr3 : (zup (zup (zup h r (3, [.ref f, .int 0, .ref l, .int x3, .int x4])) f (25, List.replicate 6 .null)) a (20, B)).1 r = (3, [.ref f, .int 0, .ref l, .int x3, .int x4]) := by rw [zup_ne n5, hr2]
  have hs3 : (zup (zup (zup h r (3, [.ref f, .int 0, .ref l, .int x3, .int x4])) f (25, List.replicate 6 .null)) a (20, B)).1 s = (3, [.ref g, .int 0, .ref m, .int u3, .int u4]) := by rw [zup_ne (Ne.symm nc), hs2]
  rw [zs_180_47, zs_180_48, zs_180_49, hs3, zf_3_3, zs_180_52, hr3, zp_3_3, zs_180_55, zs_180_56, zs_180_57, zup_ne (Ne.symm n2), hs3, zf_3_4, zs_180_60, zup_at, zp_3_4, zs_180_63, zup_up]
  refine congrArg (fun x : zH => (some ((.inl none : zO), x) : zR)) ?_
  refine Prod.ext (funext fun z => ?_) rfl
  unfold zup
  dsimp only
  by_cases h1 : z = r
  · simp only [if_pos h1]
  · by_cases h2 : z = a
    · simp only [if_neg h1, if_pos h2]
    · by_cases h3 : z = f
      · simp only [if_neg h1, if_neg h2, if_pos h3]
      · simp only [if_neg h1, if_neg h2, if_neg h3]
end ZCH
