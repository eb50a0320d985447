/-- the model's fields -/
def zMF (m : Nat) (F : Nat → Int32) : List Value := [.ref (m + 1), .ref (m + 2), .ref (m + 3), .int (F 3), .ref (m + 4), .int (F 5), .ref (m + 5), .ref (m + 6), .int (F 8), .ref (m + 7), .ref (m + 8), .int (F 11), .ref (m + 9), .ref (m + 10), .ref (m + 11), .ref (m + 12), .ref (m + 13), .ref (m + 14), .ref (m + 15), .int (F 19), .int (F 20), .int (F 21), .int (F 22), .ref (m + 16), .int (F 24), .ref (m + 17), .int (F 26), .int (F 27), .int (F 28), .int (F 29), .int (F 30), .int (F 31)]
def zMo (h : zH) (m : Nat) (F : Nat → Int32) : Prop := h.1 m = (13, zMF m F)
def yup (F : Nat → Int32) (j : Nat) (x : Int32) : Nat → Int32 := fun k => if k = j then x else F k
theorem yup_yup {F : Nat → Int32} {j : Nat} {x y : Int32} : yup (yup F j x) j y = yup F j y := by
  funext k
  unfold yup
  by_cases h : k = j
  · rw [if_pos h, if_pos h]
  · rw [if_neg h, if_neg h, if_neg h]
theorem yup_eq {F : Nat → Int32} {j : Nat} {x : Int32} : yup F j x j = x := if_pos rfl
theorem yup_ne {F : Nat → Int32} {j k : Nat} {x : Int32} (h : k ≠ j) : yup F j x k = F k := if_neg h
theorem yup_self {F : Nat → Int32} {j : Nat} {x : Int32} (h : F j = x) : yup F j x = F := by
  funext k
  unfold yup
  by_cases hk : k = j
  · rw [if_pos hk, hk, h]
  · rw [if_neg hk]
theorem yup_com {F : Nat → Int32} {j k : Nat} {x y : Int32} (h : j ≠ k) : yup (yup F j x) k y = yup (yup F k y) j x := by
  funext q
  unfold yup
  by_cases h1 : q = k
  · rw [if_pos h1, if_neg (fun g => h (g.symm.trans h1)), if_pos h1]
  · rw [if_neg h1, if_neg h1]
section ZFA
variable {m : Nat} {F : Nat → Int32} {Kv : Value → zR} {Kc : zC → zR} {x : Int32}
theorem zmf_0 : zfld (13, zMF m F) 13 0 Kv = Kv (.ref (m + 1)) := zf_13_0
theorem zmf_1 : zfld (13, zMF m F) 13 1 Kv = Kv (.ref (m + 2)) := zf_13_1
theorem zmf_2 : zfld (13, zMF m F) 13 2 Kv = Kv (.ref (m + 3)) := zf_13_2
theorem zmf_3 : zfld (13, zMF m F) 13 3 Kv = Kv (.int (F 3)) := zf_13_3
theorem zmp_3 : zpfd (13, zMF m F) 13 3 0 (.int x) Kc = Kc (13, zMF m (yup F 3 x)) := zp_13_3
theorem zmf_4 : zfld (13, zMF m F) 13 4 Kv = Kv (.ref (m + 4)) := zf_13_4
theorem zmf_5 : zfld (13, zMF m F) 13 5 Kv = Kv (.int (F 5)) := zf_13_5
theorem zmf_6 : zfld (13, zMF m F) 13 6 Kv = Kv (.ref (m + 5)) := zf_13_6
theorem zmf_7 : zfld (13, zMF m F) 13 7 Kv = Kv (.ref (m + 6)) := zf_13_7
theorem zmf_8 : zfld (13, zMF m F) 13 8 Kv = Kv (.int (F 8)) := zf_13_8
theorem zmp_8 : zpfd (13, zMF m F) 13 8 0 (.int x) Kc = Kc (13, zMF m (yup F 8 x)) := zp_13_8
theorem zmf_9 : zfld (13, zMF m F) 13 9 Kv = Kv (.ref (m + 7)) := zf_13_9
theorem zmf_10 : zfld (13, zMF m F) 13 10 Kv = Kv (.ref (m + 8)) := zf_13_10
theorem zmf_11 : zfld (13, zMF m F) 13 11 Kv = Kv (.int (F 11)) := zf_13_11
theorem zmp_11 : zpfd (13, zMF m F) 13 11 0 (.int x) Kc = Kc (13, zMF m (yup F 11 x)) := zp_13_11
theorem zmf_12 : zfld (13, zMF m F) 13 12 Kv = Kv (.ref (m + 9)) := zf_13_12
theorem zmf_13 : zfld (13, zMF m F) 13 13 Kv = Kv (.ref (m + 10)) := zf_13_13
theorem zmf_14 : zfld (13, zMF m F) 13 14 Kv = Kv (.ref (m + 11)) := zf_13_14
theorem zmf_15 : zfld (13, zMF m F) 13 15 Kv = Kv (.ref (m + 12)) := zf_13_15
theorem zmf_16 : zfld (13, zMF m F) 13 16 Kv = Kv (.ref (m + 13)) := zf_13_16
theorem zmf_17 : zfld (13, zMF m F) 13 17 Kv = Kv (.ref (m + 14)) := zf_13_17
theorem zmf_18 : zfld (13, zMF m F) 13 18 Kv = Kv (.ref (m + 15)) := zf_13_18
theorem zmf_19 : zfld (13, zMF m F) 13 19 Kv = Kv (.int (F 19)) := zf_13_19
theorem zmp_19 : zpfd (13, zMF m F) 13 19 0 (.int x) Kc = Kc (13, zMF m (yup F 19 x)) := zp_13_19
theorem zmf_20 : zfld (13, zMF m F) 13 20 Kv = Kv (.int (F 20)) := zf_13_20
theorem zmp_20 : zpfd (13, zMF m F) 13 20 0 (.int x) Kc = Kc (13, zMF m (yup F 20 x)) := zp_13_20
theorem zmf_21 : zfld (13, zMF m F) 13 21 Kv = Kv (.int (F 21)) := zf_13_21
theorem zmp_21 : zpfd (13, zMF m F) 13 21 0 (.int x) Kc = Kc (13, zMF m (yup F 21 x)) := zp_13_21
theorem zmf_22 : zfld (13, zMF m F) 13 22 Kv = Kv (.int (F 22)) := zf_13_22
theorem zmp_22 : zpfd (13, zMF m F) 13 22 0 (.int x) Kc = Kc (13, zMF m (yup F 22 x)) := zp_13_22
theorem zmf_23 : zfld (13, zMF m F) 13 23 Kv = Kv (.ref (m + 16)) := zf_13_23
theorem zmf_24 : zfld (13, zMF m F) 13 24 Kv = Kv (.int (F 24)) := zf_13_24
theorem zmp_24 : zpfd (13, zMF m F) 13 24 0 (.int x) Kc = Kc (13, zMF m (yup F 24 x)) := zp_13_24
theorem zmf_25 : zfld (13, zMF m F) 13 25 Kv = Kv (.ref (m + 17)) := zf_13_25
theorem zmf_26 : zfld (13, zMF m F) 13 26 Kv = Kv (.int (F 26)) := zf_13_26
theorem zmp_26 : zpfd (13, zMF m F) 13 26 0 (.int x) Kc = Kc (13, zMF m (yup F 26 x)) := zp_13_26
theorem zmf_27 : zfld (13, zMF m F) 13 27 Kv = Kv (.int (F 27)) := zf_13_27
theorem zmp_27 : zpfd (13, zMF m F) 13 27 0 (.int x) Kc = Kc (13, zMF m (yup F 27 x)) := zp_13_27
theorem zmf_28 : zfld (13, zMF m F) 13 28 Kv = Kv (.int (F 28)) := zf_13_28
theorem zmp_28 : zpfd (13, zMF m F) 13 28 0 (.int x) Kc = Kc (13, zMF m (yup F 28 x)) := zp_13_28
theorem zmf_29 : zfld (13, zMF m F) 13 29 Kv = Kv (.int (F 29)) := zf_13_29
theorem zmp_29 : zpfd (13, zMF m F) 13 29 0 (.int x) Kc = Kc (13, zMF m (yup F 29 x)) := zp_13_29
theorem zmf_30 : zfld (13, zMF m F) 13 30 Kv = Kv (.int (F 30)) := zf_13_30
theorem zmp_30 : zpfd (13, zMF m F) 13 30 0 (.int x) Kc = Kc (13, zMF m (yup F 30 x)) := zp_13_30
theorem zmf_31 : zfld (13, zMF m F) 13 31 Kv = Kv (.int (F 31)) := zf_13_31
theorem zmp_31 : zpfd (13, zMF m F) 13 31 0 (.int x) Kc = Kc (13, zMF m (yup F 31 x)) := zp_13_31
theorem zmp_5 : zpfd (13, zMF m F) 13 5 5 (.int (nI 1)) Kc = Kc (13, zMF m (yup F 5 (nI 1))) := zp_13_51
theorem zmp_50 : zpfd (13, zMF m F) 13 5 5 (.int 0) Kc = Kc (13, zMF m (yup F 5 0)) := zp_13_50
end ZFA
theorem zMo_rc {h : zH} {m : Nat} {F : Nat → Int32} {X : zR} (hm : zMo h m F) : zrc (h.1 m) 13 X = X := by
  rw [hm]
  exact zrc_k
theorem zMo_up {h : zH} {m : Nat} {F : Nat → Int32} : zMo (zup h m (13, zMF m F)) m F := zup_at
section ZFB
variable {A : List Int32} {i : Nat} {y : Int32} {Kv : Value → zR} {Kc : zC → zR}
theorem zgI (h : i < A.length) (h2 : A.length < 2 ^ 31) : zael (20, A.map Value.int) 20 (nI i) Kv = Kv (.int (A.getD i 0)) := zaelv (by rw [List.getElem?_map, List.getD_eq_getElem?_getD, List.getElem?_eq_getElem h]; rfl) (by omega)
theorem zgC (h : i < A.length) (h2 : A.length < 2 ^ 31) : zael (21, A.map Value.int) 21 (nI i) Kv = Kv (.int (A.getD i 0)) := zaelv (by rw [List.getElem?_map, List.getD_eq_getElem?_getD, List.getElem?_eq_getElem h]; rfl) (by omega)
theorem zsI (h : i < A.length) (h2 : A.length < 2 ^ 31) : zaset (20, A.map Value.int) 20 (nI i) (.int y) Kc = Kc (20, (A.set i y).map Value.int) := by
  rw [zaset_k (by rw [List.length_map]; exact h) (by omega), List.map_set]
theorem zsC (h : i < A.length) (h2 : A.length < 2 ^ 31) : zaset (21, A.map Value.int) 21 (nI i) (.int y) Kc = Kc (21, (A.set i (ynr y)).map Value.int) := by
  unfold zaset zix
  rw [nI_clamp (by omega), if_pos ⟨rfl, by rw [decide_eq_true (nI_pos (by omega)), decide_eq_true (by rw [List.length_map]; omega)]; rfl⟩, List.map_set]
  rfl
end ZFB
/-- a list of nodes in two arrays -/
abbrev yP : Type := List (Int32 × Int32)
def zLst (h : zH) (a b : Nat) (ps : yP) : Prop := ∃ A B : List Int32, h.1 a = (21, A.map Value.int) ∧ h.1 b = (20, B.map Value.int) ∧ A.length = 700 ∧ B.length = 700 ∧ A.take ps.length = ps.map (fun q => q.1) ∧ B.take ps.length = ps.map (fun q => q.2) ∧ ps.length ≤ 700
theorem zLst_cg {h h' : zH} {a b : Nat} {ps : yP} (hl : zLst h a b ps) (h1 : h'.1 a = h.1 a) (h2 : h'.1 b = h.1 b) : zLst h' a b ps := by
  obtain ⟨A, B, a1, a2, w⟩ := hl
  exact ⟨A, B, by rw [h1, a1], by rw [h2, a2], w⟩
theorem zLst_pre {h : zH} {a b : Nat} {ps qs : yP} (hl : zLst h a b (ps ++ qs)) : zLst h a b ps := by
  obtain ⟨A, B, a1, a2, a3, a4, a5, a6, a7⟩ := hl
  rw [List.length_append] at a7
  have g : ∀ (X : List Int32) (f : Int32 × Int32 → Int32), X.take (ps ++ qs).length = (ps ++ qs).map f → X.take ps.length = ps.map f := fun X f e => by
    have e2 := congrArg (List.take ps.length) e
    rw [List.take_take, List.length_append, Nat.min_eq_left (by omega), List.map_append, List.take_append_of_le_length (by rw [List.length_map]; exact Nat.le_refl _), List.take_of_length_le (l := ps.map f) (by rw [List.length_map]; exact Nat.le_refl _)] at e2
    exact e2
  exact ⟨A, B, a1, a2, a3, a4, g A _ a5, g B _ a6, by omega⟩
/-- what was made: F but for many -/
def zMd (h : zH) (m : Nat) (F : Nat → Int32) (qs : yP) : Prop := zMo h m (yup F 11 (nI qs.length)) ∧ zLst h (m + 7) (m + 8) qs
def zfm (m : Nat) (h h' : zH) : Prop := (∀ q, q ≠ m → q ≠ m + 7 → q ≠ m + 8 → h'.1 q = h.1 q) ∧ h'.2 = h.2
theorem zfm_rfl {m : Nat} {h : zH} : zfm m h h := ⟨fun _ _ _ _ => rfl, rfl⟩
theorem zfm_tr {m : Nat} {h h' h'' : zH} (h1 : zfm m h h') (h2 : zfm m h' h'') : zfm m h h'' := ⟨fun q a b c => (h2.1 q a b c).trans (h1.1 q a b c), h2.2.trans h1.2⟩
theorem zLst_fm {m : Nat} {h h' : zH} {ps : yP} (hl : zLst h (m + 5) (m + 6) ps) (hf : zfm m h h') : zLst h' (m + 5) (m + 6) ps := zLst_cg hl (hf.1 _ (by omega) (by omega) (by omega)) (hf.1 _ (by omega) (by omega) (by omega))
theorem zMd_rc {h : zH} {m : Nat} {F : Nat → Int32} {qs : yP} {X : zR} (hm : zMd h m F qs) : zrc (h.1 m) 13 X = X := zMo_rc hm.1
section ZFC
variable {sv : Nat → Value} {d : Nat} {h : zH} {m : Nat} {F : Nat → Int32} {qs ps : yP}
theorem e_216 {k v : Int32} (hm : zMd h m F qs) (hl : qs.length < 700) (hk : ynr k = k) : ∃ h', zcall zP sv (d + 1) 216 [.ref m, .int k, .int v] h = some (.inl none, h') ∧ zMd h' m F (qs ++ [(k, v)]) ∧ zfm m h h' := by
  obtain ⟨h1, A, B, a1, a2, a3, a4, a5, a6, a7⟩ := hm
  have hlen : (qs ++ [(k, v)]).length = qs.length + 1 := List.length_append
  refine ⟨zup (zup (zup h (m + 7) (21, (A.set qs.length k).map Value.int)) m (13, zMF m (yup F 11 (nI (qs.length + 1))))) (m + 8) (20, (B.set qs.length v).map Value.int), ?_, ⟨?_, A.set qs.length k, B.set qs.length v, ?_, zup_at, by rw [List.length_set, a3], by rw [List.length_set, a4], ?_, ?_, by rw [hlen]; omega⟩, ⟨fun q q1 q2 q3 => by rw [zup_ne q3, zup_ne q1, zup_ne q2], rfl⟩⟩
  · unfold zMo at h1
    have e1 := @zsC A qs.length k
    have e2 := @zsI B qs.length v
    simp (disch := omega) only [zc_216, zs_216_0, zs_216_0n, zs_216_1, zs_216_4, zs_216_4n, zs_216_5, zs_216_8, zs_216_9, zs_216_10, zs_216_10n, zs_216_11, zs_216_14, zs_216_14n, zs_216_15, zs_216_16, zs_216_19, zs_216_20, zs_216_21, zs_216_22, zs_216_25, zs_216_26, zs_216_27, h1, zmf_9, zmf_10, zmf_11, yup_eq, a1, e1, hk, zup_ne, zup_at, zmp_11, yup_yup, nI_1', a2, e2]
  · unfold zMo
    rw [zup_ne (by omega), zup_at, hlen]
  · rw [zup_ne (by omega), zup_ne (by omega), zup_at]
  · rw [hlen, ytk_set a5 (by omega), List.map_append]; rfl
  · rw [hlen, ytk_set a6 (by omega), List.map_append]; rfl
/-- the node at a place of what is looked at -/
theorem e_look {i : Nat} {k v : Int32} (hl : zLst h (m + 5) (m + 6) ps) (hi : ps[i]? = some (k, v)) : ∃ A B : List Int32, h.1 (m + 5) = (21, A.map Value.int) ∧ h.1 (m + 6) = (20, B.map Value.int) ∧ (∀ Kv, zael (21, A.map Value.int) 21 (nI i) Kv = Kv (.int k)) ∧ (∀ Kv, zael (20, B.map Value.int) 20 (nI i) Kv = Kv (.int v)) ∧ i < 700 := by
  obtain ⟨A, B, a1, a2, a3, a4, a5, a6, a7⟩ := hl
  have h0 := (List.getElem?_eq_some_iff.mp hi).1
  have b1 := ytk_at a5 (show (ps.map (fun q => q.1))[i]? = some k by rw [List.getElem?_map, hi]; rfl)
  have b2 := ytk_at a6 (show (ps.map (fun q => q.2))[i]? = some v by rw [List.getElem?_map, hi]; rfl)
  exact ⟨A, B, a1, a2, fun Kv => zaelv (by rw [List.getElem?_map, b1]; rfl) (by omega), fun Kv => zaelv (by rw [List.getElem?_map, b2]; rfl) (by omega), by omega⟩
theorem e_made {i : Nat} {k v : Int32} (hl : zLst h (m + 7) (m + 8) ps) (hi : ps[i]? = some (k, v)) : ∃ A B : List Int32, h.1 (m + 7) = (21, A.map Value.int) ∧ h.1 (m + 8) = (20, B.map Value.int) ∧ (∀ Kv, zael (21, A.map Value.int) 21 (nI i) Kv = Kv (.int k)) ∧ (∀ Kv, zael (20, B.map Value.int) 20 (nI i) Kv = Kv (.int v)) ∧ i < 700 := by
  obtain ⟨A, B, a1, a2, a3, a4, a5, a6, a7⟩ := hl
  have h0 := (List.getElem?_eq_some_iff.mp hi).1
  have b1 := ytk_at a5 (show (ps.map (fun q => q.1))[i]? = some k by rw [List.getElem?_map, hi]; rfl)
  have b2 := ytk_at a6 (show (ps.map (fun q => q.2))[i]? = some v by rw [List.getElem?_map, hi]; rfl)
  exact ⟨A, B, a1, a2, fun Kv => zaelv (by rw [List.getElem?_map, b1]; rfl) (by omega), fun Kv => zaelv (by rw [List.getElem?_map, b2]; rfl) (by omega), by omega⟩
def yar (k : Int32) : Int32 := if k = nI 99 ∨ k = nI 118 then 0 else if k = nI 110 then nI 1 else nI 2
theorem e_205 {k : Int32} : zcall zP sv (d + 1) 205 [.int k] h = some (.inl (some (.int (yar k))), h) := by
  unfold yar
  by_cases h1 : k = nI 99
  · simp only [zc_205, zs_205_0, zs_205_1, zs_205_3, zs_205_6, zs_205_7, zs_205_9, zs_205_12, zs_205_13, zs_205_16, zs_205_17, zs_205_19, zs_205_22, zs_205_23, zs_205_26, zs_205_27, if_pos h1, if_pos (Or.inl h1 : k = nI 99 ∨ k = nI 118)]
  · by_cases h2 : k = nI 118
    · simp only [zc_205, zs_205_0, zs_205_1, zs_205_3, zs_205_6, zs_205_7, zs_205_9, zs_205_12, zs_205_13, zs_205_16, zs_205_17, zs_205_19, zs_205_22, zs_205_23, zs_205_26, zs_205_27, if_neg h1, if_pos h2, if_pos (Or.inr h2 : k = nI 99 ∨ k = nI 118)]
    · have h3 : ¬ (k = nI 99 ∨ k = nI 118) := fun g => g.elim h1 h2
      by_cases h4 : k = nI 110
      · simp only [zc_205, zs_205_0, zs_205_1, zs_205_3, zs_205_6, zs_205_7, zs_205_9, zs_205_12, zs_205_13, zs_205_16, zs_205_17, zs_205_19, zs_205_22, zs_205_23, zs_205_26, zs_205_27, if_neg h1, if_neg h2, if_neg h3, if_pos h4]
      · simp only [zc_205, zs_205_0, zs_205_1, zs_205_3, zs_205_6, zs_205_7, zs_205_9, zs_205_12, zs_205_13, zs_205_16, zs_205_17, zs_205_19, zs_205_22, zs_205_23, zs_205_26, zs_205_27, if_neg h1, if_neg h2, if_neg h3, if_neg h4]
theorem e_211 {k a b : Int32} (hk : yis k = true) : zcall zP sv (d + 1) 211 [.int k, .int a, .int b] h = some (.inl (some (.int (yop k a b))), h) := by
  unfold yop
  rcases yis_k hk with g | g | g
  · rw [g, if_neg (by decide +kernel), if_pos rfl]
    simp only [zc_211, zs_211_0, zs_211_1, zs_211_3, zs_211_6, zs_211_7, zs_211_8, zs_211_9, zs_211_12, zs_211_13, zs_211_15, zs_211_18, zs_211_19, zs_211_20, zs_211_21, zs_211_24, zs_211_25, zs_211_26, zs_211_27, ↓reduceIte]
  · rw [g, if_neg (by decide +kernel), if_neg (by decide +kernel), if_pos rfl]
    have g1 : ((nI 45 : Int32) = nI 43) = False := nIx3
    simp only [zc_211, zs_211_0, zs_211_1, zs_211_3, zs_211_6, zs_211_7, zs_211_8, zs_211_9, zs_211_12, zs_211_13, zs_211_15, zs_211_18, zs_211_19, zs_211_20, zs_211_21, zs_211_24, zs_211_25, zs_211_26, zs_211_27, g1, ↓reduceIte]
  · rw [g, if_neg (by decide +kernel), if_neg (by decide +kernel), if_neg (by decide +kernel), if_pos rfl]
    have g1 : ((nI 42 : Int32) = nI 43) = False := nIx5
    have g2 : ((nI 42 : Int32) = nI 45) = False := nIx6
    simp only [zc_211, zs_211_0, zs_211_1, zs_211_3, zs_211_6, zs_211_7, zs_211_8, zs_211_9, zs_211_12, zs_211_13, zs_211_15, zs_211_18, zs_211_19, zs_211_20, zs_211_21, zs_211_24, zs_211_25, zs_211_26, zs_211_27, g1, g2, ↓reduceIte]
end ZFC
