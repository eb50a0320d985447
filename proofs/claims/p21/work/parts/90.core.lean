/-- the model's fields -/
def zMF (m : Nat) (F : Nat → Int32) : List Value := [.ref (m + 1), .ref (m + 2), .ref (m + 3), .int (F 3), .ref (m + 4), .int (F 5), .ref (m + 5), .ref (m + 6), .int (F 8), .ref (m + 7), .ref (m + 8), .int (F 11), .ref (m + 9), .ref (m + 10), .ref (m + 11), .ref (m + 12), .ref (m + 13), .ref (m + 14), .ref (m + 15), .int (F 19), .int (F 20), .int (F 21), .int (F 22), .ref (m + 16), .int (F 24), .ref (m + 17), .int (F 26), .int (F 27), .int (F 28), .int (F 29), .int (F 30), .int (F 31)]
def zMo (h : zH) (m : Nat) (F : Nat → Int32) : Prop := h.1 m = (13, zMF m F)
def yup (F : Nat → Int32) (j : Nat) (x : Int32) : Nat → Int32 := fun k => if k = j then x else F k
theorem yup_yup {F : Nat → Int32} {j : Nat} {x y : Int32} : yup (yup F j x) j y = yup F j y := by
  funext k
  unfold yup
  by_cases h : k = j
  · rw [if_pos h, if_pos h]
  · rw [if_neg h, if_neg h, if_neg h]
theorem yup_eq {F : Nat → Int32} {j : Nat} {x : Int32} : yup F j x j = x := if_pos rfl
theorem yup_ne {F : Nat → Int32} {j k : Nat} {x : Int32} (h : k ≠ j) : yup F j x k = F k := if_neg h
theorem yup_self {F : Nat → Int32} {j : Nat} {x : Int32} (h : F j = x) : yup F j x = F := by
  funext k
  unfold yup
  by_cases hk : k = j
  · rw [if_pos hk, hk, h]
  · rw [if_neg hk]
theorem yup_com {F : Nat → Int32} {j k : Nat} {x y : Int32} (h : j ≠ k) : yup (yup F j x) k y = yup (yup F k y) j x := by
  funext q
  unfold yup
  by_cases h1 : q = k
  · rw [if_pos h1, if_neg (fun g => h (g.symm.trans h1)), if_pos h1]
  · rw [if_neg h1, if_neg h1]
section ZFA
variable {m : Nat} {F : Nat → Int32} {Kv : Value → zR} {Kc : zC → zR} {x : Int32}
theorem zmf_0 : zfld (13, zMF m F) 13 0 Kv = Kv (.ref (m + 1)) := zf_13_0
theorem zmf_1 : zfld (13, zMF m F) 13 1 Kv = Kv (.ref (m + 2)) := zf_13_1
theorem zmf_2 : zfld (13, zMF m F) 13 2 Kv = Kv (.ref (m + 3)) := zf_13_2
theorem zmf_3 : zfld (13, zMF m F) 13 3 Kv = Kv (.int (F 3)) := zf_13_3
theorem zmp_3 : zpfd (13, zMF m F) 13 3 0 (.int x) Kc = Kc (13, zMF m (yup F 3 x)) := zp_13_3
theorem zmf_4 : zfld (13, zMF m F) 13 4 Kv = Kv (.ref (m + 4)) := zf_13_4
theorem zmf_5 : zfld (13, zMF m F) 13 5 Kv = Kv (.int (F 5)) := zf_13_5
theorem zmf_6 : zfld (13, zMF m F) 13 6 Kv = Kv (.ref (m + 5)) := zf_13_6
theorem zmf_7 : zfld (13, zMF m F) 13 7 Kv = Kv (.ref (m + 6)) := zf_13_7
theorem zmf_8 : zfld (13, zMF m F) 13 8 Kv = Kv (.int (F 8)) := zf_13_8
theorem zmp_8 : zpfd (13, zMF m F) 13 8 0 (.int x) Kc = Kc (13, zMF m (yup F 8 x)) := zp_13_8
theorem zmf_9 : zfld (13, zMF m F) 13 9 Kv = Kv (.ref (m + 7)) := zf_13_9
theorem zmf_10 : zfld (13, zMF m F) 13 10 Kv = Kv (.ref (m + 8)) := zf_13_10
theorem zmf_11 : zfld (13, zMF m F) 13 11 Kv = Kv (.int (F 11)) := zf_13_11
theorem zmp_11 : zpfd (13, zMF m F) 13 11 0 (.int x) Kc = Kc (13, zMF m (yup F 11 x)) := zp_13_11
theorem zmf_12 : zfld (13, zMF m F) 13 12 Kv = Kv (.ref (m + 9)) := zf_13_12
theorem zmf_13 : zfld (13, zMF m F) 13 13 Kv = Kv (.ref (m + 10)) := zf_13_13
theorem zmf_14 : zfld (13, zMF m F) 13 14 Kv = Kv (.ref (m + 11)) := zf_13_14
theorem zmf_15 : zfld (13, zMF m F) 13 15 Kv = Kv (.ref (m + 12)) := zf_13_15
theorem zmf_16 : zfld (13, zMF m F) 13 16 Kv = Kv (.ref (m + 13)) := zf_13_16
theorem zmf_17 : zfld (13, zMF m F) 13 17 Kv = Kv (.ref (m + 14)) := zf_13_17
theorem zmf_18 : zfld (13, zMF m F) 13 18 Kv = Kv (.ref (m + 15)) := zf_13_18
theorem zmf_19 : zfld (13, zMF m F) 13 19 Kv = Kv (.int (F 19)) := zf_13_19
theorem zmp_19 : zpfd (13, zMF m F) 13 19 0 (.int x) Kc = Kc (13, zMF m (yup F 19 x)) := zp_13_19
theorem zmf_20 : zfld (13, zMF m F) 13 20 Kv = Kv (.int (F 20)) := zf_13_20
theorem zmp_20 : zpfd (13, zMF m F) 13 20 0 (.int x) Kc = Kc (13, zMF m (yup F 20 x)) := zp_13_20
theorem zmf_21 : zfld (13, zMF m F) 13 21 Kv = Kv (.int (F 21)) := zf_13_21
theorem zmp_21 : zpfd (13, zMF m F) 13 21 0 (.int x) Kc = Kc (13, zMF m (yup F 21 x)) := zp_13_21
theorem zmf_22 : zfld (13, zMF m F) 13 22 Kv = Kv (.int (F 22)) := zf_13_22
theorem zmp_22 : zpfd (13, zMF m F) 13 22 0 (.int x) Kc = Kc (13, zMF m (yup F 22 x)) := zp_13_22
theorem zmf_23 : zfld (13, zMF m F) 13 23 Kv = Kv (.ref (m + 16)) := zf_13_23
theorem zmf_24 : zfld (13, zMF m F) 13 24 Kv = Kv (.int (F 24)) := zf_13_24
theorem zmp_24 : zpfd (13, zMF m F) 13 24 0 (.int x) Kc = Kc (13, zMF m (yup F 24 x)) := zp_13_24
theorem zmf_25 : zfld (13, zMF m F) 13 25 Kv = Kv (.ref (m + 17)) := zf_13_25
theorem zmf_26 : zfld (13, zMF m F) 13 26 Kv = Kv (.int (F 26)) := zf_13_26
theorem zmp_26 : zpfd (13, zMF m F) 13 26 0 (.int x) Kc = Kc (13, zMF m (yup F 26 x)) := zp_13_26
theorem zmf_27 : zfld (13, zMF m F) 13 27 Kv = Kv (.int (F 27)) := zf_13_27
theorem zmp_27 : zpfd (13, zMF m F) 13 27 0 (.int x) Kc = Kc (13, zMF m (yup F 27 x)) := zp_13_27
theorem zmf_28 : zfld (13, zMF m F) 13 28 Kv = Kv (.int (F 28)) := zf_13_28
theorem zmp_28 : zpfd (13, zMF m F) 13 28 0 (.int x) Kc = Kc (13, zMF m (yup F 28 x)) := zp_13_28
theorem zmf_29 : zfld (13, zMF m F) 13 29 Kv = Kv (.int (F 29)) := zf_13_29
theorem zmp_29 : zpfd (13, zMF m F) 13 29 0 (.int x) Kc = Kc (13, zMF m (yup F 29 x)) := zp_13_29
theorem zmf_30 : zfld (13, zMF m F) 13 30 Kv = Kv (.int (F 30)) := zf_13_30
theorem zmp_30 : zpfd (13, zMF m F) 13 30 0 (.int x) Kc = Kc (13, zMF m (yup F 30 x)) := zp_13_30
theorem zmf_31 : zfld (13, zMF m F) 13 31 Kv = Kv (.int (F 31)) := zf_13_31
theorem zmp_31 : zpfd (13, zMF m F) 13 31 0 (.int x) Kc = Kc (13, zMF m (yup F 31 x)) := zp_13_31
theorem zmp_5 : zpfd (13, zMF m F) 13 5 5 (.int (nI 1)) Kc = Kc (13, zMF m (yup F 5 (nI 1))) := zp_13_51
theorem zmp_50 : zpfd (13, zMF m F) 13 5 5 (.int 0) Kc = Kc (13, zMF m (yup F 5 0)) := zp_13_50
end ZFA
theorem zMo_rc {h : zH} {m : Nat} {F : Nat → Int32} {X : zR} (hm : zMo h m F) : zrc (h.1 m) 13 X = X := by
  rw [hm]
  exact zrc_k
theorem zMo_up {h : zH} {m : Nat} {F : Nat → Int32} : zMo (zup h m (13, zMF m F)) m F := zup_at
section ZFB
variable {A : List Int32} {i : Nat} {y : Int32} {Kv : Value → zR} {Kc : zC → zR}
theorem zgI (h : i < A.length) (h2 : A.length < 2 ^ 31) : zael (20, A.map Value.int) 20 (nI i) Kv = Kv (.int (A.getD i 0)) := zaelv (by rw [List.getElem?_map, List.getD_eq_getElem?_getD, List.getElem?_eq_getElem h]; rfl) (by omega)
theorem zgC (h : i < A.length) (h2 : A.length < 2 ^ 31) : zael (21, A.map Value.int) 21 (nI i) Kv = Kv (.int (A.getD i 0)) := zaelv (by rw [List.getElem?_map, List.getD_eq_getElem?_getD, List.getElem?_eq_getElem h]; rfl) (by omega)
theorem zsI (h : i < A.length) (h2 : A.length < 2 ^ 31) : zaset (20, A.map Value.int) 20 (nI i) (.int y) Kc = Kc (20, (A.set i y).map Value.int) := by
  rw [zaset_k (by rw [List.length_map]; exact h) (by omega), List.map_set]
theorem zsC (h : i < A.length) (h2 : A.length < 2 ^ 31) : zaset (21, A.map Value.int) 21 (nI i) (.int y) Kc = Kc (21, (A.set i (ynr y)).map Value.int) := by
  unfold zaset zix
  rw [nI_clamp (by omega), if_pos ⟨rfl, by rw [decide_eq_true (nI_pos (by omega)), decide_eq_true (by rw [List.length_map]; omega)]; rfl⟩, List.map_set]
  rfl
end ZFB
/-- a list of nodes in two arrays -/
abbrev yP : Type := List (Int32 × Int32)
def zLst (h : zH) (a b : Nat) (ps : yP) : Prop := ∃ A B : List Int32, h.1 a = (21, A.map Value.int) ∧ h.1 b = (20, B.map Value.int) ∧ A.length = 700 ∧ B.length = 700 ∧ A.take ps.length = ps.map (fun q => q.1) ∧ B.take ps.length = ps.map (fun q => q.2) ∧ ps.length ≤ 700
theorem zLst_cg {h h' : zH} {a b : Nat} {ps : yP} (hl : zLst h a b ps) (h1 : h'.1 a = h.1 a) (h2 : h'.1 b = h.1 b) : zLst h' a b ps := by
  obtain ⟨A, B, a1, a2, w⟩ := hl
  exact ⟨A, B, by rw [h1, a1], by rw [h2, a2], w⟩
theorem zLst_pre {h : zH} {a b : Nat} {ps qs : yP} (hl : zLst h a b (ps ++ qs)) : zLst h a b ps := by
  obtain ⟨A, B, a1, a2, a3, a4, a5, a6, a7⟩ := hl
  rw [List.length_append] at a7
  have g : ∀ (X : List Int32) (f : Int32 × Int32 → Int32), X.take (ps ++ qs).length = (ps ++ qs).map f → X.take ps.length = ps.map f := fun X f e => by
    have e2 := congrArg (List.take ps.length) e
    rw [List.take_take, List.length_append, Nat.min_eq_left (by omega), List.map_append, List.take_append_of_le_length (by rw [List.length_map]; exact Nat.le_refl _), List.take_of_length_le (l := ps.map f) (by rw [List.length_map]; exact Nat.le_refl _)] at e2
    exact e2
  exact ⟨A, B, a1, a2, a3, a4, g A _ a5, g B _ a6, by omega⟩
/-- what was made: F but for many -/
def zMd (h : zH) (m : Nat) (F : Nat → Int32) (qs : yP) : Prop := zMo h m (yup F 11 (nI qs.length)) ∧ zLst h (m + 7) (m + 8) qs
def zfm (m : Nat) (h h' : zH) : Prop := (∀ q, q ≠ m → q ≠ m + 7 → q ≠ m + 8 → h'.1 q = h.1 q) ∧ h'.2 = h.2
theorem zfm_rfl {m : Nat} {h : zH} : zfm m h h := ⟨fun _ _ _ _ => rfl, rfl⟩
theorem zfm_tr {m : Nat} {h h' h'' : zH} (h1 : zfm m h h') (h2 : zfm m h' h'') : zfm m h h'' := ⟨fun q a b c => (h2.1 q a b c).trans (h1.1 q a b c), h2.2.trans h1.2⟩
theorem zLst_fm {m : Nat} {h h' : zH} {ps : yP} (hl : zLst h (m + 5) (m + 6) ps) (hf : zfm m h h') : zLst h' (m + 5) (m + 6) ps := zLst_cg hl (hf.1 _ (by omega) (by omega) (by omega)) (hf.1 _ (by omega) (by omega) (by omega))
theorem zMd_rc {h : zH} {m : Nat} {F : Nat → Int32} {qs : yP} {X : zR} (hm : zMd h m F qs) : zrc (h.1 m) 13 X = X := zMo_rc hm.1
section ZFC
variable {sv : Nat → Value} {d : Nat} {h : zH} {m : Nat} {F : Nat → Int32} {qs ps : yP}
theorem e_216 {k v : Int32} (hm : zMd h m F qs) (hl : qs.length < 700) (hk : ynr k = k) : ∃ h', zcall zP sv (d + 1) 216 [.ref m, .int k, .int v] h = some (.inl none, h') ∧ zMd h' m F (qs ++ [(k, v)]) ∧ zfm m h h' := by
  obtain ⟨h1, A, B, a1, a2, a3, a4, a5, a6, a7⟩ := hm
  have hlen : (qs ++ [(k, v)]).length = qs.length + 1 := List.length_append
  refine ⟨zup (zup (zup h (m + 7) (21, (A.set qs.length k).map Value.int)) m (13, zMF m (yup F 11 (nI (qs.length + 1))))) (m + 8) (20, (B.set qs.length v).map Value.int), ?_, ⟨?_, A.set qs.length k, B.set qs.length v, ?_, zup_at, by rw [List.length_set, a3], by rw [List.length_set, a4], ?_, ?_, by rw [hlen]; omega⟩, ⟨fun q q1 q2 q3 => by rw [zup_ne q3, zup_ne q1, zup_ne q2], rfl⟩⟩
  · unfold zMo at h1
    have e1 := @zsC A qs.length k
    have e2 := @zsI B qs.length v
    simp (disch := omega) only [zc_216, zs_216_0, zs_216_1, zs_216_4, zs_216_5, zs_216_8, zs_216_9, zs_216_10, zs_216_11, zs_216_14, zs_216_15, zs_216_16, zs_216_19, zs_216_20, zs_216_21, zs_216_22, zs_216_25, zs_216_26, zs_216_27, h1, zmf_9, zmf_10, zmf_11, yup_eq, a1, e1, hk, zup_ne, zup_at, zmp_11, yup_yup, nI_1', a2, e2]
  · unfold zMo
    rw [zup_ne (by omega), zup_at, hlen]
  · rw [zup_ne (by omega), zup_ne (by omega), zup_at]
  · rw [hlen, ytk_set a5 (by omega), List.map_append]; rfl
  · rw [hlen, ytk_set a6 (by omega), List.map_append]; rfl
/-- the node at a place of what is looked at -/
theorem e_look {i : Nat} {k v : Int32} (hl : zLst h (m + 5) (m + 6) ps) (hi : ps[i]? = some (k, v)) : ∃ A B : List Int32, h.1 (m + 5) = (21, A.map Value.int) ∧ h.1 (m + 6) = (20, B.map Value.int) ∧ (∀ Kv, zael (21, A.map Value.int) 21 (nI i) Kv = Kv (.int k)) ∧ (∀ Kv, zael (20, B.map Value.int) 20 (nI i) Kv = Kv (.int v)) ∧ i < 700 := by
  obtain ⟨A, B, a1, a2, a3, a4, a5, a6, a7⟩ := hl
  have h0 := (List.getElem?_eq_some_iff.mp hi).1
  have b1 := ytk_at a5 (show (ps.map (fun q => q.1))[i]? = some k by rw [List.getElem?_map, hi]; rfl)
  have b2 := ytk_at a6 (show (ps.map (fun q => q.2))[i]? = some v by rw [List.getElem?_map, hi]; rfl)
  exact ⟨A, B, a1, a2, fun Kv => zaelv (by rw [List.getElem?_map, b1]; rfl) (by omega), fun Kv => zaelv (by rw [List.getElem?_map, b2]; rfl) (by omega), by omega⟩
theorem e_made {i : Nat} {k v : Int32} (hl : zLst h (m + 7) (m + 8) ps) (hi : ps[i]? = some (k, v)) : ∃ A B : List Int32, h.1 (m + 7) = (21, A.map Value.int) ∧ h.1 (m + 8) = (20, B.map Value.int) ∧ (∀ Kv, zael (21, A.map Value.int) 21 (nI i) Kv = Kv (.int k)) ∧ (∀ Kv, zael (20, B.map Value.int) 20 (nI i) Kv = Kv (.int v)) ∧ i < 700 := by
  obtain ⟨A, B, a1, a2, a3, a4, a5, a6, a7⟩ := hl
  have h0 := (List.getElem?_eq_some_iff.mp hi).1
  have b1 := ytk_at a5 (show (ps.map (fun q => q.1))[i]? = some k by rw [List.getElem?_map, hi]; rfl)
  have b2 := ytk_at a6 (show (ps.map (fun q => q.2))[i]? = some v by rw [List.getElem?_map, hi]; rfl)
  exact ⟨A, B, a1, a2, fun Kv => zaelv (by rw [List.getElem?_map, b1]; rfl) (by omega), fun Kv => zaelv (by rw [List.getElem?_map, b2]; rfl) (by omega), by omega⟩
def yar (k : Int32) : Int32 := if k = nI 99 ∨ k = nI 118 then 0 else if k = nI 110 then nI 1 else nI 2
theorem e_205 {k : Int32} : zcall zP sv (d + 1) 205 [.int k] h = some (.inl (some (.int (yar k))), h) := by
  unfold yar
  by_cases h1 : k = nI 99
  · simp only [zc_205, zs_205_0, zs_205_1, zs_205_3, zs_205_6, zs_205_7, zs_205_9, zs_205_12, zs_205_13, zs_205_16, zs_205_17, zs_205_19, zs_205_22, zs_205_23, zs_205_26, zs_205_27, if_pos h1, if_pos (Or.inl h1 : k = nI 99 ∨ k = nI 118)]
  · by_cases h2 : k = nI 118
    · simp only [zc_205, zs_205_0, zs_205_1, zs_205_3, zs_205_6, zs_205_7, zs_205_9, zs_205_12, zs_205_13, zs_205_16, zs_205_17, zs_205_19, zs_205_22, zs_205_23, zs_205_26, zs_205_27, if_neg h1, if_pos h2, if_pos (Or.inr h2 : k = nI 99 ∨ k = nI 118)]
    · have h3 : ¬ (k = nI 99 ∨ k = nI 118) := fun g => g.elim h1 h2
      by_cases h4 : k = nI 110
      · simp only [zc_205, zs_205_0, zs_205_1, zs_205_3, zs_205_6, zs_205_7, zs_205_9, zs_205_12, zs_205_13, zs_205_16, zs_205_17, zs_205_19, zs_205_22, zs_205_23, zs_205_26, zs_205_27, if_neg h1, if_neg h2, if_neg h3, if_pos h4]
      · simp only [zc_205, zs_205_0, zs_205_1, zs_205_3, zs_205_6, zs_205_7, zs_205_9, zs_205_12, zs_205_13, zs_205_16, zs_205_17, zs_205_19, zs_205_22, zs_205_23, zs_205_26, zs_205_27, if_neg h1, if_neg h2, if_neg h3, if_neg h4]
theorem e_211 {k a b : Int32} (hk : yis k = true) : zcall zP sv (d + 1) 211 [.int k, .int a, .int b] h = some (.inl (some (.int (yop k a b))), h) := by
  unfold yop
  rcases yis_k hk with g | g | g
  · rw [g, if_neg (by decide +kernel), if_pos rfl]
    simp only [zc_211, zs_211_0, zs_211_1, zs_211_3, zs_211_6, zs_211_7, zs_211_8, zs_211_9, zs_211_12, zs_211_13, zs_211_15, zs_211_18, zs_211_19, zs_211_20, zs_211_21, zs_211_24, zs_211_25, zs_211_26, zs_211_27, ↓reduceIte]
  · rw [g, if_neg (by decide +kernel), if_neg (by decide +kernel), if_pos rfl]
    have g1 : ((nI 45 : Int32) = nI 43) = False := nIx3
    simp only [zc_211, zs_211_0, zs_211_1, zs_211_3, zs_211_6, zs_211_7, zs_211_8, zs_211_9, zs_211_12, zs_211_13, zs_211_15, zs_211_18, zs_211_19, zs_211_20, zs_211_21, zs_211_24, zs_211_25, zs_211_26, zs_211_27, g1, ↓reduceIte]
  · rw [g, if_neg (by decide +kernel), if_neg (by decide +kernel), if_neg (by decide +kernel), if_pos rfl]
    have g1 : ((nI 42 : Int32) = nI 43) = False := nIx5
    have g2 : ((nI 42 : Int32) = nI 45) = False := nIx6
    simp only [zc_211, zs_211_0, zs_211_1, zs_211_3, zs_211_6, zs_211_7, zs_211_8, zs_211_9, zs_211_12, zs_211_13, zs_211_15, zs_211_18, zs_211_19, zs_211_20, zs_211_21, zs_211_24, zs_211_25, zs_211_26, zs_211_27, g1, g2, ↓reduceIte]
end ZFC

def yva (k v : Int32) : Int32 := if k = nI 118 then v - nI 97 else v
/-- a term's nodes in prefix order, as the model keeps them -/
def ypr : yT → yP
  | .leaf => []
  | .inner _ k v l r => (k, yva k v) :: (ypr l ++ ypr r)
theorem ypr_len : ∀ t : yT, (ypr t).length = ysz t
  | .leaf => rfl
  | .inner _ k v l r => by
    show (ypr l ++ ypr r).length + 1 = ysz l + ysz r + 1
    rw [List.length_append, ypr_len l, ypr_len r]
theorem nad0 {n : Nat} : nI (n + 1) + (0 - nI 1) = nI n := by
  rw [← nI_add n 1, Int32.add_assoc, show nI 1 + (0 - nI 1) = (0 : Int32) by decide +kernel, Int32.add_zero]
theorem nad1 {n : Nat} : nI n + (nI 1 - nI 1) = nI n := by
  rw [show nI 1 - nI 1 = (0 : Int32) by decide +kernel, Int32.add_zero]
theorem nad2 {n : Nat} : nI n + (nI 2 - nI 1) = nI (n + 1) := by
  rw [show nI 2 - nI 1 = nI 1 by decide +kernel, nI_add]
theorem yar_c : yar (nI 99) = 0 := by decide +kernel
theorem yar_v : yar (nI 118) = 0 := by decide +kernel
theorem yar_n : yar (nI 110) = nI 1 := by decide +kernel
theorem yar_o {k : Int32} (hk : yis k = true) : yar k = nI 2 := by
  rcases yis_k hk with g | g | g <;> rw [g] <;> decide +kernel
theorem ynr_99 : ynr (nI 99) = nI 99 := by decide +kernel
theorem ynr_118 : ynr (nI 118) = nI 118 := by decide +kernel
theorem ynr_110 : ynr (nI 110) = nI 110 := by decide +kernel
theorem ynr_o {k : Int32} (hk : yis k = true) : ynr k = k := by
  rcases yis_k hk with g | g | g <;> rw [g] <;> decide +kernel
section ZFD
variable {sv : Nat → Value} {d : Nat} {h : zH} {m : Nat} {F : Nat → Int32} {qs ps : yP}
theorem e_209s {nd : Value} {i n : Nat} {k v : Int32} (hm : zMo h m F) (hl : zLst h (m + 5) (m + 6) ps) (hi : ps[i]? = some (k, v)) (hn : n < 2 ^ 30) : zrun zP sv (zcall zP sv (d + 1)) 209 4 [.val (.ref m), .val nd, .val (.int (nI i)), .val (.int (nI (n + 1)))] [] h = zrun zP sv (zcall zP sv (d + 1)) 209 4 [.val (.ref m), .val nd, .val (.int (nI (i + 1))), .val (.int (nI (n + 1) + (yar k - nI 1)))] [] h := by
  obtain ⟨A, B, a1, a2, a3, a4, a5⟩ := e_look hl hi
  unfold zMo at hm
  have g1 : (0 : Int32) < nI (n + 1) := by rw [← nI_0]; exact nI_lt (by omega) (by omega)
  rw [zs_209_4, zs_209_5, if_pos g1]
  simp (disch := exact znw_i) only [zs_209_0, zs_209_1, zs_209_2, zs_209_3, zs_209_8, zs_209_9, zs_209_10, zs_209_13, zs_209_14, zs_209_17, zs_209_18, zs_209_21, zs_209_22, zs_209_23, zs_209_24, zs_209_28, zs_209_29, hm, zmf_6, a1, a3, e_205, nI_1', zbk_v, zts_s]
  rw [zs_209_25]
theorem e_209l {nd : Value} (hm : zMo h m F) : ∀ (t : yT), ytw t = true → ∀ (pre post : yP) (n : Nat), zLst h (m + 5) (m + 6) (pre ++ ypr t ++ post) → n + ysz t < 2 ^ 30 → zrun zP sv (zcall zP sv (d + 1)) 209 4 [.val (.ref m), .val nd, .val (.int (nI pre.length)), .val (.int (nI (n + 1)))] [] h = zrun zP sv (zcall zP sv (d + 1)) 209 4 [.val (.ref m), .val nd, .val (.int (nI (pre.length + ysz t))), .val (.int (nI n))] [] h
  | .leaf, ht => by cases ht
  | .inner z k v l r, ht => by
    intro pre post n hl hn
    have hn' : n + (ysz l + ysz r + 1) < 2 ^ 30 := hn
    have e0 : pre ++ ypr (.inner z k v l r) ++ post = pre ++ (k, yva k v) :: (ypr l ++ ypr r ++ post) := by
      show pre ++ (k, yva k v) :: (ypr l ++ ypr r) ++ post = _
      rw [List.append_assoc]; rfl
    have hi : (pre ++ (k, yva k v) :: (ypr l ++ ypr r ++ post))[pre.length]? = some (k, yva k v) := by
      rw [List.getElem?_append_right (Nat.le_refl _), Nat.sub_self]; rfl
    rw [e0] at hl
    rw [e_209s hm hl hi (by omega)]
    have ea : pre ++ (k, yva k v) :: (ypr l ++ ypr r ++ post) = (pre ++ [(k, yva k v)]) ++ ypr l ++ (ypr r ++ post) := by
      rw [List.append_assoc, List.append_assoc, List.append_assoc]; rfl
    have eb : pre ++ (k, yva k v) :: (ypr l ++ ypr r ++ post) = (pre ++ [(k, yva k v)] ++ ypr l) ++ ypr r ++ post := by
      rw [ea]
      simp only [List.append_assoc]
    have l1 : (pre ++ [(k, yva k v)]).length = pre.length + 1 := List.length_append
    have l2 : (pre ++ [(k, yva k v)] ++ ypr l).length = pre.length + 1 + ysz l := by rw [List.length_append, l1, ypr_len]
    rcases ytw_el ht with g | g | g | g
    · obtain ⟨g1, g2, g3⟩ := g
      subst g1 g2 g3
      rw [yar_c, nad0]
      rfl
    · obtain ⟨g1, g4, g2, g3⟩ := g
      subst g1 g2 g3
      rw [yar_v, nad0]
      rfl
    · obtain ⟨g1, _, g2, g3⟩ := g
      subst g1 g3
      rw [yar_n, nad1]
      rw [ea] at hl
      have := e_209l (nd := nd) hm l g2 (pre ++ [(nI 110, yva (nI 110) v)]) (ypr .leaf ++ post) n hl (by omega)
      rw [l1] at this
      rw [this]
      show zrun _ _ _ _ _ [_, _, .val (.int (nI (pre.length + 1 + ysz l))), _] _ _ = zrun _ _ _ _ _ [_, _, .val (.int (nI (pre.length + (ysz l + 0 + 1)))), _] _ _
      rw [show pre.length + 1 + ysz l = pre.length + (ysz l + 0 + 1) by omega]
    · rw [yar_o g.1, nad2]
      have hl1 := hl
      have hl2 := hl
      rw [ea] at hl1
      rw [eb] at hl2
      have i1 := e_209l (nd := nd) hm l g.2.2.1 (pre ++ [(k, yva k v)]) (ypr r ++ post) (n + 1) hl1 (by omega)
      rw [l1] at i1
      rw [i1]
      have i2 := e_209l (nd := nd) hm r g.2.2.2 (pre ++ [(k, yva k v)] ++ ypr l) post n hl2 (by omega)
      rw [l2] at i2
      rw [i2]
      show zrun _ _ _ _ _ [_, _, .val (.int (nI (pre.length + 1 + ysz l + ysz r))), _] _ _ = zrun _ _ _ _ _ [_, _, .val (.int (nI (pre.length + (ysz l + ysz r + 1)))), _] _ _
      rw [show pre.length + 1 + ysz l + ysz r = pre.length + (ysz l + ysz r + 1) by omega]
theorem e_209 {t : yT} {pre post : yP} (hm : zMo h m F) (ht : ytw t = true) (hl : zLst h (m + 5) (m + 6) (pre ++ ypr t ++ post)) : zcall zP sv (d + 2) 209 [.ref m, .int (nI pre.length)] h = some (.inl (some (.int (nI (pre.length + ysz t)))), h) := by
  have hs : ysz t ≤ 700 := by
    obtain ⟨A, B, _, _, _, _, _, _, a7⟩ := hl
    rw [List.length_append, List.length_append, ypr_len] at a7
    omega
  have e1 := e_209l (sv := sv) (d := d) (nd := .int (nI pre.length)) hm t ht pre post 0 hl (by omega)
  rw [zc_209]
  simp (disch := exact znw_u) only [zs_209_0, zs_209_1, zs_209_2, zs_209_3, zs_209_5, zs_209_8, zs_209_9, zs_209_10, zs_209_13, zs_209_14, zs_209_17, zs_209_18, zs_209_21, zs_209_22, zs_209_23, zs_209_24, zs_209_25, zs_209_28, zs_209_29]
  rw [Nat.zero_add] at e1
  rw [e1, nI_0]
  simp only [zs_209_0, zs_209_1, zs_209_2, zs_209_3, zs_209_4, zs_209_5, zs_209_8, zs_209_9, zs_209_10, zs_209_13, zs_209_14, zs_209_17, zs_209_18, zs_209_21, zs_209_22, zs_209_23, zs_209_24, zs_209_25, zs_209_28, zs_209_29, Int32.lt_irrefl, ↓reduceIte]
theorem zLst_set {a b i : Nat} {L : yP} {k v : Int32} (hl : zLst h a b L) (hab : a ≠ b) (hi : i < L.length) (hk : ynr k = k) : ∀ A B : List Int32, h.1 a = (21, A.map Value.int) → h.1 b = (20, B.map Value.int) → zLst (zup (zup h a (21, (A.set i k).map Value.int)) b (20, (B.set i v).map Value.int)) a b (L.set i (k, v)) := by
  intro A' B' e1 e2
  obtain ⟨A, B, a1, a2, a3, a4, a5, a6, a7⟩ := hl
  have hA : A'.map Value.int = A.map Value.int := by rw [e1] at a1; exact (Prod.mk.inj a1).2
  have hB : B'.map Value.int = B.map Value.int := by rw [e2] at a2; exact (Prod.mk.inj a2).2
  have inj : ∀ X Y : List Int32, X.map Value.int = Y.map Value.int → X = Y := fun X Y e => by
    have := List.map_inj_right (f := Value.int) (l := X) (l' := Y) (fun x y g => by injection g)
    exact this.mp e
  obtain rfl := inj _ _ hA
  obtain rfl := inj _ _ hB
  refine ⟨A'.set i k, B'.set i v, by rw [zup_ne hab, zup_at], zup_at, by rw [List.length_set, a3], by rw [List.length_set, a4], ?_, ?_, by rw [List.length_set]; exact a7⟩
  · rw [List.length_set, List.take_set, a5, List.map_set]
  · rw [List.length_set, List.take_set, a6, List.map_set]
end ZFD

def ycpy (A C : yP) (u n : Nat) : yP := C.take u ++ A.take n ++ C.drop (u + n)
theorem ycpy_0 {A C : yP} {u : Nat} : ycpy A C u 0 = C := by
  unfold ycpy
  rw [List.take_zero, List.append_nil, Nat.add_zero, List.take_append_drop]
theorem ycpy_len {A C : yP} {u n : Nat} (hC : u + n ≤ C.length) (hA : n ≤ A.length) : (ycpy A C u n).length = C.length := by
  unfold ycpy
  rw [List.length_append, List.length_append, List.length_take, List.length_take, List.length_drop]
  omega
theorem ycpy_set {A C : yP} {u n : Nat} {y : Int32 × Int32} (hC : u + n < C.length) (hA : A[n]? = some y) : (ycpy A C u n).set (u + n) y = ycpy A C u (n + 1) := by
  have hn : n < A.length := (List.getElem?_eq_some_iff.mp hA).1
  unfold ycpy
  have e1 : (C.take u ++ A.take n).length = u + n := by
    rw [List.length_append, List.length_take, List.length_take]; omega
  rw [List.set_append_right _ _ (by omega), e1, Nat.sub_self, List.drop_eq_getElem_cons hC, List.set_cons_zero, List.take_add_one, hA, List.append_assoc, List.append_assoc, List.append_assoc]
  rfl
theorem ycpy_get {A C : yP} {u n i : Nat} (hC : u + n ≤ C.length) (hA : n ≤ A.length) (hi : u + n ≤ i) : (ycpy A C u n)[i]? = C[i]? := by
  unfold ycpy
  have e1 : (C.take u ++ A.take n).length = u + n := by
    rw [List.length_append, List.length_take, List.length_take]; omega
  rw [List.getElem?_append_right (by omega), e1, List.getElem?_drop]
  congr 1
  omega
theorem zMd_pre {h : zH} {m : Nat} {F : Nat → Int32} {L : yP} {p : Nat} (hm : zMd h m F L) (hp : p ≤ L.length) : zMd (zup h m (13, zMF m (yup F 11 (nI p)))) m F (L.take p) := by
  obtain ⟨h1, h2⟩ := hm
  have e : (L.take p).length = p := by rw [List.length_take]; omega
  refine ⟨?_, ?_⟩
  · unfold zMo
    rw [zup_at, e]
  · have h3 := zLst_cg (h' := zup h m (13, zMF m (yup F 11 (nI p)))) h2 (zup_ne (by omega)) (zup_ne (by omega))
    rw [← List.take_append_drop p L] at h3
    exact zLst_pre h3
section ZFE
variable {sv : Nat → Value} {d : Nat} {m : Nat} {F : Nat → Int32} {L : yP}
theorem e_218l {p x n : Nat} (hL : p + x + n ≤ L.length) (h7 : L.length ≤ 700) (hk : ∀ q, q ∈ L → ynr q.1 = q.1) : ∀ j k (h : zH), k + j = n → zMd h m F (ycpy (L.drop (p + x)) L p k) → ∃ h', zrun zP sv (zcall zP sv d) 218 3 [.val (.ref m), .val (.int (nI p)), .val (.int (nI (p + x))), .val (.int (nI (p + x + n))), .val (.int (nI k))] [] h = zrun zP sv (zcall zP sv d) 218 53 [.val (.ref m), .val (.int (nI p)), .val (.int (nI (p + x))), .val (.int (nI (p + x + n))), .val (.int (nI n))] [] h' ∧ zMd h' m F (ycpy (L.drop (p + x)) L p n) ∧ zfm m h h' := by
  have hsub : nI (p + x + n) - nI (p + x) = nI n := nI_sub'
  have hdl : (L.drop (p + x)).length = L.length - (p + x) := List.length_drop
  intro j
  induction j with
  | zero =>
    intro k h hkn hm
    obtain rfl : k = n := by omega
    refine ⟨h, ?_, hm, zfm_rfl⟩
    simp only [zs_218_0, zs_218_1, zs_218_3, zs_218_5, zs_218_6, zs_218_7, zs_218_8, zs_218_11, zs_218_12, zs_218_15, zs_218_16, zs_218_18, zs_218_19, zs_218_20, zs_218_23, zs_218_24, zs_218_26, zs_218_27, zs_218_28, zs_218_29, zs_218_30, zs_218_33, zs_218_34, zs_218_36, zs_218_37, zs_218_38, zs_218_41, zs_218_42, zs_218_44, zs_218_45, zs_218_46, zs_218_47, zs_218_50, zs_218_54, zs_218_55, zs_218_56, zs_218_57, zs_218_58, zs_218_59, zs_218_62, hsub, Int32.lt_irrefl, ↓reduceIte]
  | succ j ih =>
    intro k h hkn hm
    have hlen := ycpy_len (A := L.drop (p + x)) (C := L) (u := p) (n := k) (by omega) (by omega)
    obtain ⟨y, hy⟩ : ∃ y, L[p + x + k]? = some y := ⟨_, List.getElem?_eq_getElem (by omega)⟩
    have hy1 : (L.drop (p + x))[k]? = some y := by rw [List.getElem?_drop, hy]
    have hy2 : (ycpy (L.drop (p + x)) L p k)[p + x + k]? = some y := by rw [ycpy_get (by omega) (by omega) (by omega), hy]
    have hyn := hk y (List.mem_of_getElem? hy)
    obtain ⟨h1, h2⟩ := hm
    obtain ⟨A, B, a1, a2, a3, a4, a5⟩ := e_made (k := y.1) (v := y.2) h2 hy2
    have hA : A.length = 700 ∧ B.length = 700 := by
      obtain ⟨A', B', b1, b2, b3, b4, _⟩ := h2
      rw [a1] at b1
      rw [a2] at b2
      have c1 := congrArg List.length (Prod.mk.inj b1).2
      have c2 := congrArg List.length (Prod.mk.inj b2).2
      rw [List.length_map, List.length_map] at c1 c2
      omega
    have w := zLst_set (i := p + k) (v := y.2) h2 (show m + 7 ≠ m + 8 by omega) (by rw [hlen]; omega) hyn A B a1 a2
    rw [ycpy_set (by omega) hy1] at w
    have hlen2 := ycpy_len (A := L.drop (p + x)) (C := L) (u := p) (n := k + 1) (by omega) (by omega)
    have hm2 : zMd (zup (zup h (m + 7) (21, (A.set (p + k) y.1).map Value.int)) (m + 8) (20, (B.set (p + k) y.2).map Value.int)) m F (ycpy (L.drop (p + x)) L p (k + 1)) := ⟨by unfold zMo at h1 ⊢; rw [zup_ne (by omega), zup_ne (by omega), h1, hlen, hlen2], w⟩
    obtain ⟨h', e, w2, f2⟩ := ih (k + 1) _ (by omega) hm2
    have f0 : zfm m h (zup (zup h (m + 7) (21, (A.set (p + k) y.1).map Value.int)) (m + 8) (20, (B.set (p + k) y.2).map Value.int)) := ⟨fun q q1 q2 q3 => by rw [zup_ne q3, zup_ne q2], rfl⟩
    refine ⟨h', ?_, w2, zfm_tr f0 f2⟩
    unfold zMo at h1
    have g1 : nI k < nI n := nI_lt (by omega) (by omega)
    have s1 : ∀ Kc : zC → zR, zaset (21, A.map Value.int) 21 (nI (p + k)) (.int y.1) Kc = Kc (21, (A.set (p + k) (ynr y.1)).map Value.int) := fun Kc => zsC (by omega) (by omega)
    have s2 : ∀ Kc : zC → zR, zaset (20, B.map Value.int) 20 (nI (p + k)) (.int y.2) Kc = Kc (20, (B.set (p + k) y.2).map Value.int) := fun Kc => zsI (by omega) (by omega)
    simp (disch := omega) only [zs_218_0, zs_218_1, zs_218_3, zs_218_5, zs_218_6, zs_218_7, zs_218_8, zs_218_11, zs_218_12, zs_218_15, zs_218_16, zs_218_18, zs_218_19, zs_218_20, zs_218_23, zs_218_24, zs_218_26, zs_218_27, zs_218_28, zs_218_29, zs_218_30, zs_218_33, zs_218_34, zs_218_36, zs_218_37, zs_218_38, zs_218_41, zs_218_42, zs_218_44, zs_218_45, zs_218_46, zs_218_47, zs_218_54, zs_218_55, zs_218_56, zs_218_57, zs_218_58, zs_218_59, zs_218_62, hsub, if_pos g1, h1, zmf_9, zmf_10, nI_add, a1, a3, s1, hyn, zup_ne, a2, a4, s2]
    rw [zs_218_50, e]
theorem e_218 {h : zH} {p x n : Nat} (hm : zMd h m F L) (hL : p + x + n ≤ L.length) (hk : ∀ q, q ∈ L → ynr q.1 = q.1) : ∃ h', zcall zP sv (d + 1) 218 [.ref m, .int (nI p), .int (nI (p + x)), .int (nI (p + x + n))] h = some (.inl none, h') ∧ zMd h' m F (L.take p ++ (L.drop (p + x)).take n) ∧ zfm m h h' := by
  have h7 : L.length ≤ 700 := by
    obtain ⟨_, A, B, _, _, _, _, _, _, a7⟩ := hm
    exact a7
  obtain ⟨h1, e1, w1, f1⟩ := e_218l (sv := sv) (d := d) (p := p) (x := x) (n := n) hL h7 hk n 0 h (Nat.zero_add _) (by rw [ycpy_0]; exact hm)
  rw [nI_0] at e1
  have hdl : (L.drop (p + x)).length = L.length - (p + x) := List.length_drop
  have w2 := zMd_pre (p := p + n) w1 (by rw [ycpy_len (by omega) (by omega)]; omega)
  have e2 : (ycpy (L.drop (p + x)) L p n).take (p + n) = L.take p ++ (L.drop (p + x)).take n := by
    unfold ycpy
    exact List.take_left' (by rw [List.length_append, List.length_take, List.length_take]; omega)
  rw [e2] at w2
  have h2 := w1.1
  unfold zMo at h2
  refine ⟨_, ?_, w2, zfm_tr f1 ⟨fun q q1 q2 q3 => zup_ne q1, rfl⟩⟩
  have hs : nI (p + (p + x + n)) - nI (p + x) = nI (p + n) := by
    rw [show p + (p + x + n) = (p + x) + (p + n) by omega, nI_sub']
  rw [zc_218, zs_218_0, zs_218_1 znw_u, e1]
  simp only [zs_218_0, zs_218_1, zs_218_3, zs_218_5, zs_218_6, zs_218_7, zs_218_8, zs_218_11, zs_218_12, zs_218_15, zs_218_16, zs_218_18, zs_218_19, zs_218_20, zs_218_23, zs_218_24, zs_218_26, zs_218_27, zs_218_28, zs_218_29, zs_218_30, zs_218_33, zs_218_34, zs_218_36, zs_218_37, zs_218_38, zs_218_41, zs_218_42, zs_218_44, zs_218_45, zs_218_46, zs_218_47, zs_218_50, zs_218_53, zs_218_54, zs_218_55, zs_218_56, zs_218_57, zs_218_58, zs_218_59, zs_218_62, h2, nI_add, hs, zmp_11, yup_yup]
theorem e_219 {h : zH} {p : Nat} {v : Int32} (hm : zMd h m F L) (hp : p ≤ L.length) (hp7 : p < 700) : ∃ h', zcall zP sv (d + 2) 219 [.ref m, .int (nI p), .int v] h = some (.inl none, h') ∧ zMd h' m F (L.take p ++ [(nI 99, v)]) ∧ zfm m h h' := by
  have h1 := hm.1
  unfold zMo at h1
  have w1 := zMd_pre hm hp
  have hlen : (L.take p).length = p := by rw [List.length_take]; omega
  obtain ⟨h', e, w, f⟩ := e_216 (sv := sv) (d := d) (k := nI 99) (v := v) w1 (by omega) ynr_99
  refine ⟨h', ?_, w, zfm_tr ⟨fun q q1 q2 q3 => zup_ne q1, rfl⟩ f⟩
  have hrc : ∀ X : zR, zrc (13, zMF m (yup F 11 (nI p))) 13 X = X := fun X => zrc_k
  simp only [zc_219, zs_219_0, zs_219_1, zs_219_2, zs_219_5, zs_219_6, zs_219_8, zs_219_9, zs_219_12, h1, zmp_11, yup_yup, zup_at, hrc, e, zbk_v, zts_n]
theorem e_220 {h : zH} {i : Nat} {k v c : Int32} (hm : zMd h m F L) (hi : L[i]? = some (k, v)) : zcall zP sv (d + 1) 220 [.ref m, .int (nI i), .int c] h = some (.inl (some (.int (yb (decide (k = nI 99) && decide (v = c))))), h) := by
  obtain ⟨A, B, a1, a2, a3, a4, a5⟩ := e_made hm.2 hi
  have h1 := hm.1
  unfold zMo at h1
  by_cases g1 : k = nI 99
  · by_cases g2 : v = c
    · simp only [zc_220, zs_220_0, zs_220_1, zs_220_4, zs_220_5, zs_220_6, zs_220_8, zs_220_11, zs_220_12, zs_220_15, zs_220_16, zs_220_17, zs_220_18, zs_220_21, zs_220_22, zs_220_25, zs_220_26, h1, zmf_9, zmf_10, a1, a2, a3, a4, if_pos g1, if_pos g2, zty_51, zgd_t, decide_eq_true g1, decide_eq_true g2, Bool.and_self, yb_t]
    · simp only [zc_220, zs_220_0, zs_220_1, zs_220_4, zs_220_5, zs_220_6, zs_220_8, zs_220_11, zs_220_12, zs_220_15, zs_220_16, zs_220_17, zs_220_18, zs_220_21, zs_220_22, zs_220_25, zs_220_26, h1, zmf_9, zmf_10, a1, a2, a3, a4, if_pos g1, if_neg g2, zty_50, zgd_t, decide_eq_true g1, decide_eq_false g2, Bool.and_false, yb_f]
  · simp only [zc_220, zs_220_0, zs_220_1, zs_220_4, zs_220_5, zs_220_6, zs_220_8, zs_220_11, zs_220_12, zs_220_15, zs_220_16, zs_220_17, zs_220_18, zs_220_21, zs_220_22, zs_220_25, zs_220_26, h1, zmf_9, zmf_10, a1, a2, a3, a4, if_neg g1, zty_50, zgd_t, decide_eq_false g1, Bool.false_and, yb_f]
end ZFE
