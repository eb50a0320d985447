/-- the model's fields -/
def zMF (m : Nat) (F : Nat → Int32) : List Value := [.ref (m + 1), .ref (m + 2), .ref (m + 3), .int (F 3), .ref (m + 4), .int (F 5), .ref (m + 5), .ref (m + 6), .int (F 8), .ref (m + 7), .ref (m + 8), .int (F 11), .ref (m + 9), .ref (m + 10), .ref (m + 11), .ref (m + 12), .ref (m + 13), .ref (m + 14), .ref (m + 15), .int (F 19), .int (F 20), .int (F 21), .int (F 22), .ref (m + 16), .int (F 24), .ref (m + 17), .int (F 26), .int (F 27), .int (F 28), .int (F 29), .int (F 30), .int (F 31)]
def zMo (h : zH) (m : Nat) (F : Nat → Int32) : Prop := h.1 m = (13, zMF m F)
def yup (F : Nat → Int32) (j : Nat) (x : Int32) : Nat → Int32 := fun k => if k = j then x else F k
theorem yup_yup {F : Nat → Int32} {j : Nat} {x y : Int32} : yup (yup F j x) j y = yup F j y := by
  funext k
  unfold yup
  by_cases h : k = j
  · rw [if_pos h, if_pos h]
  · rw [if_neg h, if_neg h, if_neg h]
theorem yup_eq {F : Nat → Int32} {j : Nat} {x : Int32} : yup F j x j = x := if_pos rfl
theorem yup_ne {F : Nat → Int32} {j k : Nat} {x : Int32} (h : k ≠ j) : yup F j x k = F k := if_neg h
theorem yup_self {F : Nat → Int32} {j : Nat} {x : Int32} (h : F j = x) : yup F j x = F := by
  funext k
  unfold yup
  by_cases hk : k = j
  · rw [if_pos hk, hk, h]
  · rw [if_neg hk]
theorem yup_com {F : Nat → Int32} {j k : Nat} {x y : Int32} (h : j ≠ k) : yup (yup F j x) k y = yup (yup F k y) j x := by
  funext q
  unfold yup
  by_cases h1 : q = k
  · rw [if_pos h1, if_neg (fun g => h (g.symm.trans h1)), if_pos h1]
  · rw [if_neg h1, if_neg h1]
section ZFA
variable {m : Nat} {F : Nat → Int32} {Kv : Value → zR} {Kc : zC → zR} {x : Int32}
theorem zmf_0 : zfld (13, zMF m F) 13 0 Kv = Kv (.ref (m + 1)) := zf_13_0
theorem zmf_1 : zfld (13, zMF m F) 13 1 Kv = Kv (.ref (m + 2)) := zf_13_1
theorem zmf_2 : zfld (13, zMF m F) 13 2 Kv = Kv (.ref (m + 3)) := zf_13_2
theorem zmf_3 : zfld (13, zMF m F) 13 3 Kv = Kv (.int (F 3)) := zf_13_3
theorem zmp_3 : zpfd (13, zMF m F) 13 3 0 (.int x) Kc = Kc (13, zMF m (yup F 3 x)) := zp_13_3
theorem zmf_4 : zfld (13, zMF m F) 13 4 Kv = Kv (.ref (m + 4)) := zf_13_4
theorem zmf_5 : zfld (13, zMF m F) 13 5 Kv = Kv (.int (F 5)) := zf_13_5
theorem zmf_6 : zfld (13, zMF m F) 13 6 Kv = Kv (.ref (m + 5)) := zf_13_6
theorem zmf_7 : zfld (13, zMF m F) 13 7 Kv = Kv (.ref (m + 6)) := zf_13_7
theorem zmf_8 : zfld (13, zMF m F) 13 8 Kv = Kv (.int (F 8)) := zf_13_8
theorem zmp_8 : zpfd (13, zMF m F) 13 8 0 (.int x) Kc = Kc (13, zMF m (yup F 8 x)) := zp_13_8
theorem zmf_9 : zfld (13, zMF m F) 13 9 Kv = Kv (.ref (m + 7)) := zf_13_9
theorem zmf_10 : zfld (13, zMF m F) 13 10 Kv = Kv (.ref (m + 8)) := zf_13_10
theorem zmf_11 : zfld (13, zMF m F) 13 11 Kv = Kv (.int (F 11)) := zf_13_11
theorem zmp_11 : zpfd (13, zMF m F) 13 11 0 (.int x) Kc = Kc (13, zMF m (yup F 11 x)) := zp_13_11
theorem zmf_12 : zfld (13, zMF m F) 13 12 Kv = Kv (.ref (m + 9)) := zf_13_12
theorem zmf_13 : zfld (13, zMF m F) 13 13 Kv = Kv (.ref (m + 10)) := zf_13_13
theorem zmf_14 : zfld (13, zMF m F) 13 14 Kv = Kv (.ref (m + 11)) := zf_13_14
theorem zmf_15 : zfld (13, zMF m F) 13 15 Kv = Kv (.ref (m + 12)) := zf_13_15
theorem zmf_16 : zfld (13, zMF m F) 13 16 Kv = Kv (.ref (m + 13)) := zf_13_16
theorem zmf_17 : zfld (13, zMF m F) 13 17 Kv = Kv (.ref (m + 14)) := zf_13_17
theorem zmf_18 : zfld (13, zMF m F) 13 18 Kv = Kv (.ref (m + 15)) := zf_13_18
theorem zmf_19 : zfld (13, zMF m F) 13 19 Kv = Kv (.int (F 19)) := zf_13_19
theorem zmp_19 : zpfd (13, zMF m F) 13 19 0 (.int x) Kc = Kc (13, zMF m (yup F 19 x)) := zp_13_19
theorem zmf_20 : zfld (13, zMF m F) 13 20 Kv = Kv (.int (F 20)) := zf_13_20
theorem zmp_20 : zpfd (13, zMF m F) 13 20 0 (.int x) Kc = Kc (13, zMF m (yup F 20 x)) := zp_13_20
theorem zmf_21 : zfld (13, zMF m F) 13 21 Kv = Kv (.int (F 21)) := zf_13_21
theorem zmp_21 : zpfd (13, zMF m F) 13 21 0 (.int x) Kc = Kc (13, zMF m (yup F 21 x)) := zp_13_21
theorem zmf_22 : zfld (13, zMF m F) 13 22 Kv = Kv (.int (F 22)) := zf_13_22
theorem zmp_22 : zpfd (13, zMF m F) 13 22 0 (.int x) Kc = Kc (13, zMF m (yup F 22 x)) := zp_13_22
theorem zmf_23 : zfld (13, zMF m F) 13 23 Kv = Kv (.ref (m + 16)) := zf_13_23
theorem zmf_24 : zfld (13, zMF m F) 13 24 Kv = Kv (.int (F 24)) := zf_13_24
theorem zmp_24 : zpfd (13, zMF m F) 13 24 0 (.int x) Kc = Kc (13, zMF m (yup F 24 x)) := zp_13_24
theorem zmf_25 : zfld (13, zMF m F) 13 25 Kv = Kv (.ref (m + 17)) := zf_13_25
theorem zmf_26 : zfld (13, zMF m F) 13 26 Kv = Kv (.int (F 26)) := zf_13_26
theorem zmp_26 : zpfd (13, zMF m F) 13 26 0 (.int x) Kc = Kc (13, zMF m (yup F 26 x)) := zp_13_26
theorem zmf_27 : zfld (13, zMF m F) 13 27 Kv = Kv (.int (F 27)) := zf_13_27
theorem zmp_27 : zpfd (13, zMF m F) 13 27 0 (.int x) Kc = Kc (13, zMF m (yup F 27 x)) := zp_13_27
theorem zmf_28 : zfld (13, zMF m F) 13 28 Kv = Kv (.int (F 28)) := zf_13_28
theorem zmp_28 : zpfd (13, zMF m F) 13 28 0 (.int x) Kc = Kc (13, zMF m (yup F 28 x)) := zp_13_28
theorem zmf_29 : zfld (13, zMF m F) 13 29 Kv = Kv (.int (F 29)) := zf_13_29
theorem zmp_29 : zpfd (13, zMF m F) 13 29 0 (.int x) Kc = Kc (13, zMF m (yup F 29 x)) := zp_13_29
theorem zmf_30 : zfld (13, zMF m F) 13 30 Kv = Kv (.int (F 30)) := zf_13_30
theorem zmp_30 : zpfd (13, zMF m F) 13 30 0 (.int x) Kc = Kc (13, zMF m (yup F 30 x)) := zp_13_30
theorem zmf_31 : zfld (13, zMF m F) 13 31 Kv = Kv (.int (F 31)) := zf_13_31
theorem zmp_31 : zpfd (13, zMF m F) 13 31 0 (.int x) Kc = Kc (13, zMF m (yup F 31 x)) := zp_13_31
theorem zmp_5 : zpfd (13, zMF m F) 13 5 5 (.int (nI 1)) Kc = Kc (13, zMF m (yup F 5 (nI 1))) := zp_13_51
theorem zmp_50 : zpfd (13, zMF m F) 13 5 5 (.int 0) Kc = Kc (13, zMF m (yup F 5 0)) := zp_13_50
end ZFA
theorem zMo_rc {h : zH} {m : Nat} {F : Nat → Int32} {X : zR} (hm : zMo h m F) : zrc (h.1 m) 13 X = X := by
  rw [hm]
  exact zrc_k
theorem zMo_up {h : zH} {m : Nat} {F : Nat → Int32} : zMo (zup h m (13, zMF m F)) m F := zup_at
section ZFB
variable {A : List Int32} {i : Nat} {y : Int32} {Kv : Value → zR} {Kc : zC → zR}
theorem zgI (h : i < A.length) (h2 : A.length < 2 ^ 31) : zael (20, A.map Value.int) 20 (nI i) Kv = Kv (.int (A.getD i 0)) := zaelv (by rw [List.getElem?_map, List.getD_eq_getElem?_getD, List.getElem?_eq_getElem h]; rfl) (by omega)
theorem zgC (h : i < A.length) (h2 : A.length < 2 ^ 31) : zael (21, A.map Value.int) 21 (nI i) Kv = Kv (.int (A.getD i 0)) := zaelv (by rw [List.getElem?_map, List.getD_eq_getElem?_getD, List.getElem?_eq_getElem h]; rfl) (by omega)
theorem zsI (h : i < A.length) (h2 : A.length < 2 ^ 31) : zaset (20, A.map Value.int) 20 (nI i) (.int y) Kc = Kc (20, (A.set i y).map Value.int) := by
  rw [zaset_k (by rw [List.length_map]; exact h) (by omega), List.map_set]
theorem zsC (h : i < A.length) (h2 : A.length < 2 ^ 31) : zaset (21, A.map Value.int) 21 (nI i) (.int y) Kc = Kc (21, (A.set i (ynr y)).map Value.int) := by
  unfold zaset zix
  rw [nI_clamp (by omega), if_pos ⟨rfl, by rw [decide_eq_true (nI_pos (by omega)), decide_eq_true (by rw [List.length_map]; omega)]; rfl⟩, List.map_set]
  rfl
end ZFB
/-- a list of nodes in two arrays -/
abbrev yP : Type := List (Int32 × Int32)
def zLst (h : zH) (a b : Nat) (ps : yP) : Prop := ∃ A B : List Int32, h.1 a = (21, A.map Value.int) ∧ h.1 b = (20, B.map Value.int) ∧ A.length = 700 ∧ B.length = 700 ∧ A.take ps.length = ps.map (fun q => q.1) ∧ B.take ps.length = ps.map (fun q => q.2) ∧ ps.length ≤ 700
theorem zLst_cg {h h' : zH} {a b : Nat} {ps : yP} (hl : zLst h a b ps) (h1 : h'.1 a = h.1 a) (h2 : h'.1 b = h.1 b) : zLst h' a b ps := by
  obtain ⟨A, B, a1, a2, w⟩ := hl
  exact ⟨A, B, by rw [h1, a1], by rw [h2, a2], w⟩
theorem zLst_pre {h : zH} {a b : Nat} {ps qs : yP} (hl : zLst h a b (ps ++ qs)) : zLst h a b ps := by
  obtain ⟨A, B, a1, a2, a3, a4, a5, a6, a7⟩ := hl
  rw [List.length_append] at a7
  have g : ∀ (X : List Int32) (f : Int32 × Int32 → Int32), X.take (ps ++ qs).length = (ps ++ qs).map f → X.take ps.length = ps.map f := fun X f e => by
    have e2 := congrArg (List.take ps.length) e
    rw [List.take_take, List.length_append, Nat.min_eq_left (by omega), List.map_append, List.take_append_of_le_length (by rw [List.length_map]; exact Nat.le_refl _), List.take_of_length_le (l := ps.map f) (by rw [List.length_map]; exact Nat.le_refl _)] at e2
    exact e2
  exact ⟨A, B, a1, a2, a3, a4, g A _ a5, g B _ a6, by omega⟩
/-- what was made: F but for many -/
def zMd (h : zH) (m : Nat) (F : Nat → Int32) (qs : yP) : Prop := zMo h m (yup F 11 (nI qs.length)) ∧ zLst h (m + 7) (m + 8) qs
def zfm (m : Nat) (h h' : zH) : Prop := (∀ q, q ≠ m → q ≠ m + 7 → q ≠ m + 8 → h'.1 q = h.1 q) ∧ h'.2 = h.2
theorem zfm_rfl {m : Nat} {h : zH} : zfm m h h := ⟨fun _ _ _ _ => rfl, rfl⟩
theorem zfm_tr {m : Nat} {h h' h'' : zH} (h1 : zfm m h h') (h2 : zfm m h' h'') : zfm m h h'' := ⟨fun q a b c => (h2.1 q a b c).trans (h1.1 q a b c), h2.2.trans h1.2⟩
theorem zLst_fm {m : Nat} {h h' : zH} {ps : yP} (hl : zLst h (m + 5) (m + 6) ps) (hf : zfm m h h') : zLst h' (m + 5) (m + 6) ps := zLst_cg hl (hf.1 _ (by omega) (by omega) (by omega)) (hf.1 _ (by omega) (by omega) (by omega))
theorem zMd_rc {h : zH} {m : Nat} {F : Nat → Int32} {qs : yP} {X : zR} (hm : zMd h m F qs) : zrc (h.1 m) 13 X = X := zMo_rc hm.1
section ZFC
variable {sv : Nat → Value} {d : Nat} {h : zH} {m : Nat} {F : Nat → Int32} {qs ps : yP}
theorem e_216 {k v : Int32} (hm : zMd h m F qs) (hl : qs.length < 700) (hk : ynr k = k) : ∃ h', zcall zP sv (d + 1) 216 [.ref m, .int k, .int v] h = some (.inl none, h') ∧ zMd h' m F (qs ++ [(k, v)]) ∧ zfm m h h' := by
  obtain ⟨h1, A, B, a1, a2, a3, a4, a5, a6, a7⟩ := hm
  have hlen : (qs ++ [(k, v)]).length = qs.length + 1 := List.length_append
  refine ⟨zup (zup (zup h (m + 7) (21, (A.set qs.length k).map Value.int)) m (13, zMF m (yup F 11 (nI (qs.length + 1))))) (m + 8) (20, (B.set qs.length v).map Value.int), ?_, ⟨?_, A.set qs.length k, B.set qs.length v, ?_, zup_at, by rw [List.length_set, a3], by rw [List.length_set, a4], ?_, ?_, by rw [hlen]; omega⟩, ⟨fun q q1 q2 q3 => by rw [zup_ne q3, zup_ne q1, zup_ne q2], rfl⟩⟩
  · unfold zMo at h1
    have e1 := @zsC A qs.length k
    have e2 := @zsI B qs.length v
    simp (disch := omega) only [zc_216, zs_216_0, zs_216_1, zs_216_4, zs_216_5, zs_216_8, zs_216_9, zs_216_10, zs_216_11, zs_216_14, zs_216_15, zs_216_16, zs_216_19, zs_216_20, zs_216_21, zs_216_22, zs_216_25, zs_216_26, zs_216_27, h1, zmf_9, zmf_10, zmf_11, yup_eq, a1, e1, hk, zup_ne, zup_at, zmp_11, yup_yup, nI_1', a2, e2]
  · unfold zMo
    rw [zup_ne (by omega), zup_at, hlen]
  · rw [zup_ne (by omega), zup_ne (by omega), zup_at]
  · rw [hlen, ytk_set a5 (by omega), List.map_append]; rfl
  · rw [hlen, ytk_set a6 (by omega), List.map_append]; rfl
/-- the node at a place of what is looked at -/
theorem e_look {i : Nat} {k v : Int32} (hl : zLst h (m + 5) (m + 6) ps) (hi : ps[i]? = some (k, v)) : ∃ A B : List Int32, h.1 (m + 5) = (21, A.map Value.int) ∧ h.1 (m + 6) = (20, B.map Value.int) ∧ (∀ Kv, zael (21, A.map Value.int) 21 (nI i) Kv = Kv (.int k)) ∧ (∀ Kv, zael (20, B.map Value.int) 20 (nI i) Kv = Kv (.int v)) ∧ i < 700 := by
  obtain ⟨A, B, a1, a2, a3, a4, a5, a6, a7⟩ := hl
  have h0 := (List.getElem?_eq_some_iff.mp hi).1
  have b1 := ytk_at a5 (show (ps.map (fun q => q.1))[i]? = some k by rw [List.getElem?_map, hi]; rfl)
  have b2 := ytk_at a6 (show (ps.map (fun q => q.2))[i]? = some v by rw [List.getElem?_map, hi]; rfl)
  exact ⟨A, B, a1, a2, fun Kv => zaelv (by rw [List.getElem?_map, b1]; rfl) (by omega), fun Kv => zaelv (by rw [List.getElem?_map, b2]; rfl) (by omega), by omega⟩
theorem e_made {i : Nat} {k v : Int32} (hl : zLst h (m + 7) (m + 8) ps) (hi : ps[i]? = some (k, v)) : ∃ A B : List Int32, h.1 (m + 7) = (21, A.map Value.int) ∧ h.1 (m + 8) = (20, B.map Value.int) ∧ (∀ Kv, zael (21, A.map Value.int) 21 (nI i) Kv = Kv (.int k)) ∧ (∀ Kv, zael (20, B.map Value.int) 20 (nI i) Kv = Kv (.int v)) ∧ i < 700 := by
  obtain ⟨A, B, a1, a2, a3, a4, a5, a6, a7⟩ := hl
  have h0 := (List.getElem?_eq_some_iff.mp hi).1
  have b1 := ytk_at a5 (show (ps.map (fun q => q.1))[i]? = some k by rw [List.getElem?_map, hi]; rfl)
  have b2 := ytk_at a6 (show (ps.map (fun q => q.2))[i]? = some v by rw [List.getElem?_map, hi]; rfl)
  exact ⟨A, B, a1, a2, fun Kv => zaelv (by rw [List.getElem?_map, b1]; rfl) (by omega), fun Kv => zaelv (by rw [List.getElem?_map, b2]; rfl) (by omega), by omega⟩
def yar (k : Int32) : Int32 := if k = nI 99 ∨ k = nI 118 then 0 else if k = nI 110 then nI 1 else nI 2
theorem e_205 {k : Int32} : zcall zP sv (d + 1) 205 [.int k] h = some (.inl (some (.int (yar k))), h) := by
  unfold yar
  by_cases h1 : k = nI 99
  · simp only [zc_205, zs_205_0, zs_205_1, zs_205_3, zs_205_6, zs_205_7, zs_205_9, zs_205_12, zs_205_13, zs_205_16, zs_205_17, zs_205_19, zs_205_22, zs_205_23, zs_205_26, zs_205_27, if_pos h1, if_pos (Or.inl h1 : k = nI 99 ∨ k = nI 118)]
  · by_cases h2 : k = nI 118
    · simp only [zc_205, zs_205_0, zs_205_1, zs_205_3, zs_205_6, zs_205_7, zs_205_9, zs_205_12, zs_205_13, zs_205_16, zs_205_17, zs_205_19, zs_205_22, zs_205_23, zs_205_26, zs_205_27, if_neg h1, if_pos h2, if_pos (Or.inr h2 : k = nI 99 ∨ k = nI 118)]
    · have h3 : ¬ (k = nI 99 ∨ k = nI 118) := fun g => g.elim h1 h2
      by_cases h4 : k = nI 110
      · simp only [zc_205, zs_205_0, zs_205_1, zs_205_3, zs_205_6, zs_205_7, zs_205_9, zs_205_12, zs_205_13, zs_205_16, zs_205_17, zs_205_19, zs_205_22, zs_205_23, zs_205_26, zs_205_27, if_neg h1, if_neg h2, if_neg h3, if_pos h4]
      · simp only [zc_205, zs_205_0, zs_205_1, zs_205_3, zs_205_6, zs_205_7, zs_205_9, zs_205_12, zs_205_13, zs_205_16, zs_205_17, zs_205_19, zs_205_22, zs_205_23, zs_205_26, zs_205_27, if_neg h1, if_neg h2, if_neg h3, if_neg h4]
theorem e_211 {k a b : Int32} (hk : yis k = true) : zcall zP sv (d + 1) 211 [.int k, .int a, .int b] h = some (.inl (some (.int (yop k a b))), h) := by
  unfold yop
  rcases yis_k hk with g | g | g
  · rw [g, if_neg (by decide +kernel), if_pos rfl]
    simp only [zc_211, zs_211_0, zs_211_1, zs_211_3, zs_211_6, zs_211_7, zs_211_8, zs_211_9, zs_211_12, zs_211_13, zs_211_15, zs_211_18, zs_211_19, zs_211_20, zs_211_21, zs_211_24, zs_211_25, zs_211_26, zs_211_27, ↓reduceIte]
  · rw [g, if_neg (by decide +kernel), if_neg (by decide +kernel), if_pos rfl]
    have g1 : ((nI 45 : Int32) = nI 43) = False := nIx3
    simp only [zc_211, zs_211_0, zs_211_1, zs_211_3, zs_211_6, zs_211_7, zs_211_8, zs_211_9, zs_211_12, zs_211_13, zs_211_15, zs_211_18, zs_211_19, zs_211_20, zs_211_21, zs_211_24, zs_211_25, zs_211_26, zs_211_27, g1, ↓reduceIte]
  · rw [g, if_neg (by decide +kernel), if_neg (by decide +kernel), if_neg (by decide +kernel), if_pos rfl]
    have g1 : ((nI 42 : Int32) = nI 43) = False := nIx5
    have g2 : ((nI 42 : Int32) = nI 45) = False := nIx6
    simp only [zc_211, zs_211_0, zs_211_1, zs_211_3, zs_211_6, zs_211_7, zs_211_8, zs_211_9, zs_211_12, zs_211_13, zs_211_15, zs_211_18, zs_211_19, zs_211_20, zs_211_21, zs_211_24, zs_211_25, zs_211_26, zs_211_27, g1, g2, ↓reduceIte]
end ZFC

def yva (k v : Int32) : Int32 := if k = nI 118 then v - nI 97 else v
/-- a term's nodes in prefix order, as the model keeps them -/
def ypr : yT → yP
  | .leaf => []
  | .inner _ k v l r => (k, yva k v) :: (ypr l ++ ypr r)
theorem ypr_len : ∀ t : yT, (ypr t).length = ysz t
  | .leaf => rfl
  | .inner _ k v l r => by
    show (ypr l ++ ypr r).length + 1 = ysz l + ysz r + 1
    rw [List.length_append, ypr_len l, ypr_len r]
theorem nad0 {n : Nat} : nI (n + 1) + (0 - nI 1) = nI n := by
  rw [← nI_add n 1, Int32.add_assoc, show nI 1 + (0 - nI 1) = (0 : Int32) by decide +kernel, Int32.add_zero]
theorem nad1 {n : Nat} : nI n + (nI 1 - nI 1) = nI n := by
  rw [show nI 1 - nI 1 = (0 : Int32) by decide +kernel, Int32.add_zero]
theorem nad2 {n : Nat} : nI n + (nI 2 - nI 1) = nI (n + 1) := by
  rw [show nI 2 - nI 1 = nI 1 by decide +kernel, nI_add]
theorem yar_c : yar (nI 99) = 0 := by decide +kernel
theorem yar_v : yar (nI 118) = 0 := by decide +kernel
theorem yar_n : yar (nI 110) = nI 1 := by decide +kernel
theorem yar_o {k : Int32} (hk : yis k = true) : yar k = nI 2 := by
  rcases yis_k hk with g | g | g <;> rw [g] <;> decide +kernel
theorem ynr_99 : ynr (nI 99) = nI 99 := by decide +kernel
theorem ynr_118 : ynr (nI 118) = nI 118 := by decide +kernel
theorem ynr_110 : ynr (nI 110) = nI 110 := by decide +kernel
theorem ynr_o {k : Int32} (hk : yis k = true) : ynr k = k := by
  rcases yis_k hk with g | g | g <;> rw [g] <;> decide +kernel
section ZFD
variable {sv : Nat → Value} {d : Nat} {h : zH} {m : Nat} {F : Nat → Int32} {qs ps : yP}
theorem e_209s {nd : Value} {i n : Nat} {k v : Int32} (hm : zMo h m F) (hl : zLst h (m + 5) (m + 6) ps) (hi : ps[i]? = some (k, v)) (hn : n < 2 ^ 30) : zrun zP sv (zcall zP sv (d + 1)) 209 4 [.val (.ref m), .val nd, .val (.int (nI i)), .val (.int (nI (n + 1)))] [] h = zrun zP sv (zcall zP sv (d + 1)) 209 4 [.val (.ref m), .val nd, .val (.int (nI (i + 1))), .val (.int (nI (n + 1) + (yar k - nI 1)))] [] h := by
  obtain ⟨A, B, a1, a2, a3, a4, a5⟩ := e_look hl hi
  unfold zMo at hm
  have g1 : (0 : Int32) < nI (n + 1) := by rw [← nI_0]; exact nI_lt (by omega) (by omega)
  rw [zs_209_4, zs_209_5, if_pos g1]
  simp (disch := exact znw_i) only [zs_209_0, zs_209_1, zs_209_2, zs_209_3, zs_209_8, zs_209_9, zs_209_10, zs_209_13, zs_209_14, zs_209_17, zs_209_18, zs_209_21, zs_209_22, zs_209_23, zs_209_24, zs_209_28, zs_209_29, hm, zmf_6, a1, a3, e_205, nI_1', zbk_v, zts_s]
  rw [zs_209_25]
theorem e_209l {nd : Value} (hm : zMo h m F) : ∀ (t : yT), ytw t = true → ∀ (pre post : yP) (n : Nat), zLst h (m + 5) (m + 6) (pre ++ ypr t ++ post) → n + ysz t < 2 ^ 30 → zrun zP sv (zcall zP sv (d + 1)) 209 4 [.val (.ref m), .val nd, .val (.int (nI pre.length)), .val (.int (nI (n + 1)))] [] h = zrun zP sv (zcall zP sv (d + 1)) 209 4 [.val (.ref m), .val nd, .val (.int (nI (pre.length + ysz t))), .val (.int (nI n))] [] h
  | .leaf, ht => by cases ht
  | .inner z k v l r, ht => by
    intro pre post n hl hn
    have hn' : n + (ysz l + ysz r + 1) < 2 ^ 30 := hn
    have e0 : pre ++ ypr (.inner z k v l r) ++ post = pre ++ (k, yva k v) :: (ypr l ++ ypr r ++ post) := by
      show pre ++ (k, yva k v) :: (ypr l ++ ypr r) ++ post = _
      rw [List.append_assoc]; rfl
    have hi : (pre ++ (k, yva k v) :: (ypr l ++ ypr r ++ post))[pre.length]? = some (k, yva k v) := by
      rw [List.getElem?_append_right (Nat.le_refl _), Nat.sub_self]; rfl
    rw [e0] at hl
    rw [e_209s hm hl hi (by omega)]
    have ea : pre ++ (k, yva k v) :: (ypr l ++ ypr r ++ post) = (pre ++ [(k, yva k v)]) ++ ypr l ++ (ypr r ++ post) := by
      rw [List.append_assoc, List.append_assoc, List.append_assoc]; rfl
    have eb : pre ++ (k, yva k v) :: (ypr l ++ ypr r ++ post) = (pre ++ [(k, yva k v)] ++ ypr l) ++ ypr r ++ post := by
      rw [ea]
      simp only [List.append_assoc]
    have l1 : (pre ++ [(k, yva k v)]).length = pre.length + 1 := List.length_append
    have l2 : (pre ++ [(k, yva k v)] ++ ypr l).length = pre.length + 1 + ysz l := by rw [List.length_append, l1, ypr_len]
    rcases ytw_el ht with g | g | g | g
    · obtain ⟨g1, g2, g3⟩ := g
      subst g1 g2 g3
      rw [yar_c, nad0]
      rfl
    · obtain ⟨g1, g4, g2, g3⟩ := g
      subst g1 g2 g3
      rw [yar_v, nad0]
      rfl
    · obtain ⟨g1, _, g2, g3⟩ := g
      subst g1 g3
      rw [yar_n, nad1]
      rw [ea] at hl
      have := e_209l (nd := nd) hm l g2 (pre ++ [(nI 110, yva (nI 110) v)]) (ypr .leaf ++ post) n hl (by omega)
      rw [l1] at this
      rw [this]
      show zrun _ _ _ _ _ [_, _, .val (.int (nI (pre.length + 1 + ysz l))), _] _ _ = zrun _ _ _ _ _ [_, _, .val (.int (nI (pre.length + (ysz l + 0 + 1)))), _] _ _
      rw [show pre.length + 1 + ysz l = pre.length + (ysz l + 0 + 1) by omega]
    · rw [yar_o g.1, nad2]
      have hl1 := hl
      have hl2 := hl
      rw [ea] at hl1
      rw [eb] at hl2
      have i1 := e_209l (nd := nd) hm l g.2.2.1 (pre ++ [(k, yva k v)]) (ypr r ++ post) (n + 1) hl1 (by omega)
      rw [l1] at i1
      rw [i1]
      have i2 := e_209l (nd := nd) hm r g.2.2.2 (pre ++ [(k, yva k v)] ++ ypr l) post n hl2 (by omega)
      rw [l2] at i2
      rw [i2]
      show zrun _ _ _ _ _ [_, _, .val (.int (nI (pre.length + 1 + ysz l + ysz r))), _] _ _ = zrun _ _ _ _ _ [_, _, .val (.int (nI (pre.length + (ysz l + ysz r + 1)))), _] _ _
      rw [show pre.length + 1 + ysz l + ysz r = pre.length + (ysz l + ysz r + 1) by omega]
theorem e_209 {t : yT} {pre post : yP} (hm : zMo h m F) (ht : ytw t = true) (hl : zLst h (m + 5) (m + 6) (pre ++ ypr t ++ post)) : zcall zP sv (d + 2) 209 [.ref m, .int (nI pre.length)] h = some (.inl (some (.int (nI (pre.length + ysz t)))), h) := by
  have hs : ysz t ≤ 700 := by
    obtain ⟨A, B, _, _, _, _, _, _, a7⟩ := hl
    rw [List.length_append, List.length_append, ypr_len] at a7
    omega
  have e1 := e_209l (sv := sv) (d := d) (nd := .int (nI pre.length)) hm t ht pre post 0 hl (by omega)
  rw [zc_209]
  simp (disch := exact znw_u) only [zs_209_0, zs_209_1, zs_209_2, zs_209_3, zs_209_5, zs_209_8, zs_209_9, zs_209_10, zs_209_13, zs_209_14, zs_209_17, zs_209_18, zs_209_21, zs_209_22, zs_209_23, zs_209_24, zs_209_25, zs_209_28, zs_209_29]
  rw [Nat.zero_add] at e1
  rw [e1, nI_0]
  simp only [zs_209_0, zs_209_1, zs_209_2, zs_209_3, zs_209_4, zs_209_5, zs_209_8, zs_209_9, zs_209_10, zs_209_13, zs_209_14, zs_209_17, zs_209_18, zs_209_21, zs_209_22, zs_209_23, zs_209_24, zs_209_25, zs_209_28, zs_209_29, Int32.lt_irrefl, ↓reduceIte]
theorem zLst_set {a b i : Nat} {L : yP} {k v : Int32} (hl : zLst h a b L) (hab : a ≠ b) (hi : i < L.length) (hk : ynr k = k) : ∀ A B : List Int32, h.1 a = (21, A.map Value.int) → h.1 b = (20, B.map Value.int) → zLst (zup (zup h a (21, (A.set i k).map Value.int)) b (20, (B.set i v).map Value.int)) a b (L.set i (k, v)) := by
  intro A' B' e1 e2
  obtain ⟨A, B, a1, a2, a3, a4, a5, a6, a7⟩ := hl
  have hA : A'.map Value.int = A.map Value.int := by rw [e1] at a1; exact (Prod.mk.inj a1).2
  have hB : B'.map Value.int = B.map Value.int := by rw [e2] at a2; exact (Prod.mk.inj a2).2
  have inj : ∀ X Y : List Int32, X.map Value.int = Y.map Value.int → X = Y := fun X Y e => by
    have := List.map_inj_right (f := Value.int) (l := X) (l' := Y) (fun x y g => by injection g)
    exact this.mp e
  obtain rfl := inj _ _ hA
  obtain rfl := inj _ _ hB
  refine ⟨A'.set i k, B'.set i v, by rw [zup_ne hab, zup_at], zup_at, by rw [List.length_set, a3], by rw [List.length_set, a4], ?_, ?_, by rw [List.length_set]; exact a7⟩
  · rw [List.length_set, List.take_set, a5, List.map_set]
  · rw [List.length_set, List.take_set, a6, List.map_set]
end ZFD

def ycpy (A C : yP) (u n : Nat) : yP := C.take u ++ A.take n ++ C.drop (u + n)
theorem ycpy_0 {A C : yP} {u : Nat} : ycpy A C u 0 = C := by
  unfold ycpy
  rw [List.take_zero, List.append_nil, Nat.add_zero, List.take_append_drop]
theorem ycpy_len {A C : yP} {u n : Nat} (hC : u + n ≤ C.length) (hA : n ≤ A.length) : (ycpy A C u n).length = C.length := by
  unfold ycpy
  rw [List.length_append, List.length_append, List.length_take, List.length_take, List.length_drop]
  omega
theorem ycpy_set {A C : yP} {u n : Nat} {y : Int32 × Int32} (hC : u + n < C.length) (hA : A[n]? = some y) : (ycpy A C u n).set (u + n) y = ycpy A C u (n + 1) := by
  have hn : n < A.length := (List.getElem?_eq_some_iff.mp hA).1
  unfold ycpy
  have e1 : (C.take u ++ A.take n).length = u + n := by
    rw [List.length_append, List.length_take, List.length_take]; omega
  rw [List.set_append_right _ _ (by omega), e1, Nat.sub_self, List.drop_eq_getElem_cons hC, List.set_cons_zero, List.take_add_one, hA, List.append_assoc, List.append_assoc, List.append_assoc]
  rfl
theorem ycpy_get {A C : yP} {u n i : Nat} (hC : u + n ≤ C.length) (hA : n ≤ A.length) (hi : u + n ≤ i) : (ycpy A C u n)[i]? = C[i]? := by
  unfold ycpy
  have e1 : (C.take u ++ A.take n).length = u + n := by
    rw [List.length_append, List.length_take, List.length_take]; omega
  rw [List.getElem?_append_right (by omega), e1, List.getElem?_drop]
  congr 1
  omega
theorem zMd_pre {h : zH} {m : Nat} {F : Nat → Int32} {L : yP} {p : Nat} (hm : zMd h m F L) (hp : p ≤ L.length) : zMd (zup h m (13, zMF m (yup F 11 (nI p)))) m F (L.take p) := by
  obtain ⟨h1, h2⟩ := hm
  have e : (L.take p).length = p := by rw [List.length_take]; omega
  refine ⟨?_, ?_⟩
  · unfold zMo
    rw [zup_at, e]
  · have h3 := zLst_cg (h' := zup h m (13, zMF m (yup F 11 (nI p)))) h2 (zup_ne (by omega)) (zup_ne (by omega))
    rw [← List.take_append_drop p L] at h3
    exact zLst_pre h3
section ZFE
variable {sv : Nat → Value} {d : Nat} {m : Nat} {F : Nat → Int32} {L : yP}
theorem e_218l {p x n : Nat} (hL : p + x + n ≤ L.length) (h7 : L.length ≤ 700) (hk : ∀ q, q ∈ L → ynr q.1 = q.1) : ∀ j k (h : zH), k + j = n → zMd h m F (ycpy (L.drop (p + x)) L p k) → ∃ h', zrun zP sv (zcall zP sv d) 218 3 [.val (.ref m), .val (.int (nI p)), .val (.int (nI (p + x))), .val (.int (nI (p + x + n))), .val (.int (nI k))] [] h = zrun zP sv (zcall zP sv d) 218 53 [.val (.ref m), .val (.int (nI p)), .val (.int (nI (p + x))), .val (.int (nI (p + x + n))), .val (.int (nI n))] [] h' ∧ zMd h' m F (ycpy (L.drop (p + x)) L p n) ∧ zfm m h h' := by
  have hsub : nI (p + x + n) - nI (p + x) = nI n := nI_sub'
  have hdl : (L.drop (p + x)).length = L.length - (p + x) := List.length_drop
  intro j
  induction j with
  | zero =>
    intro k h hkn hm
    obtain rfl : k = n := by omega
    refine ⟨h, ?_, hm, zfm_rfl⟩
    simp only [zs_218_0, zs_218_1, zs_218_3, zs_218_5, zs_218_6, zs_218_7, zs_218_8, zs_218_11, zs_218_12, zs_218_15, zs_218_16, zs_218_18, zs_218_19, zs_218_20, zs_218_23, zs_218_24, zs_218_26, zs_218_27, zs_218_28, zs_218_29, zs_218_30, zs_218_33, zs_218_34, zs_218_36, zs_218_37, zs_218_38, zs_218_41, zs_218_42, zs_218_44, zs_218_45, zs_218_46, zs_218_47, zs_218_50, zs_218_54, zs_218_55, zs_218_56, zs_218_57, zs_218_58, zs_218_59, zs_218_62, hsub, Int32.lt_irrefl, ↓reduceIte]
  | succ j ih =>
    intro k h hkn hm
    have hlen := ycpy_len (A := L.drop (p + x)) (C := L) (u := p) (n := k) (by omega) (by omega)
    obtain ⟨y, hy⟩ : ∃ y, L[p + x + k]? = some y := ⟨_, List.getElem?_eq_getElem (by omega)⟩
    have hy1 : (L.drop (p + x))[k]? = some y := by rw [List.getElem?_drop, hy]
    have hy2 : (ycpy (L.drop (p + x)) L p k)[p + x + k]? = some y := by rw [ycpy_get (by omega) (by omega) (by omega), hy]
    have hyn := hk y (List.mem_of_getElem? hy)
    obtain ⟨h1, h2⟩ := hm
    obtain ⟨A, B, a1, a2, a3, a4, a5⟩ := e_made (k := y.1) (v := y.2) h2 hy2
    have hA : A.length = 700 ∧ B.length = 700 := by
      obtain ⟨A', B', b1, b2, b3, b4, _⟩ := h2
      rw [a1] at b1
      rw [a2] at b2
      have c1 := congrArg List.length (Prod.mk.inj b1).2
      have c2 := congrArg List.length (Prod.mk.inj b2).2
      rw [List.length_map, List.length_map] at c1 c2
      omega
    have w := zLst_set (i := p + k) (v := y.2) h2 (show m + 7 ≠ m + 8 by omega) (by rw [hlen]; omega) hyn A B a1 a2
    rw [ycpy_set (by omega) hy1] at w
    have hlen2 := ycpy_len (A := L.drop (p + x)) (C := L) (u := p) (n := k + 1) (by omega) (by omega)
    have hm2 : zMd (zup (zup h (m + 7) (21, (A.set (p + k) y.1).map Value.int)) (m + 8) (20, (B.set (p + k) y.2).map Value.int)) m F (ycpy (L.drop (p + x)) L p (k + 1)) := ⟨by unfold zMo at h1 ⊢; rw [zup_ne (by omega), zup_ne (by omega), h1, hlen, hlen2], w⟩
    obtain ⟨h', e, w2, f2⟩ := ih (k + 1) _ (by omega) hm2
    have f0 : zfm m h (zup (zup h (m + 7) (21, (A.set (p + k) y.1).map Value.int)) (m + 8) (20, (B.set (p + k) y.2).map Value.int)) := ⟨fun q q1 q2 q3 => by rw [zup_ne q3, zup_ne q2], rfl⟩
    refine ⟨h', ?_, w2, zfm_tr f0 f2⟩
    unfold zMo at h1
    have g1 : nI k < nI n := nI_lt (by omega) (by omega)
    have s1 : ∀ Kc : zC → zR, zaset (21, A.map Value.int) 21 (nI (p + k)) (.int y.1) Kc = Kc (21, (A.set (p + k) (ynr y.1)).map Value.int) := fun Kc => zsC (by omega) (by omega)
    have s2 : ∀ Kc : zC → zR, zaset (20, B.map Value.int) 20 (nI (p + k)) (.int y.2) Kc = Kc (20, (B.set (p + k) y.2).map Value.int) := fun Kc => zsI (by omega) (by omega)
    simp (disch := omega) only [zs_218_0, zs_218_1, zs_218_3, zs_218_5, zs_218_6, zs_218_7, zs_218_8, zs_218_11, zs_218_12, zs_218_15, zs_218_16, zs_218_18, zs_218_19, zs_218_20, zs_218_23, zs_218_24, zs_218_26, zs_218_27, zs_218_28, zs_218_29, zs_218_30, zs_218_33, zs_218_34, zs_218_36, zs_218_37, zs_218_38, zs_218_41, zs_218_42, zs_218_44, zs_218_45, zs_218_46, zs_218_47, zs_218_54, zs_218_55, zs_218_56, zs_218_57, zs_218_58, zs_218_59, zs_218_62, hsub, if_pos g1, h1, zmf_9, zmf_10, nI_add, a1, a3, s1, hyn, zup_ne, a2, a4, s2]
    rw [zs_218_50, e]
theorem e_218 {h : zH} {p x n : Nat} (hm : zMd h m F L) (hL : p + x + n ≤ L.length) (hk : ∀ q, q ∈ L → ynr q.1 = q.1) : ∃ h', zcall zP sv (d + 1) 218 [.ref m, .int (nI p), .int (nI (p + x)), .int (nI (p + x + n))] h = some (.inl none, h') ∧ zMd h' m F (L.take p ++ (L.drop (p + x)).take n) ∧ zfm m h h' := by
  have h7 : L.length ≤ 700 := by
    obtain ⟨_, A, B, _, _, _, _, _, _, a7⟩ := hm
    exact a7
  obtain ⟨h1, e1, w1, f1⟩ := e_218l (sv := sv) (d := d) (p := p) (x := x) (n := n) hL h7 hk n 0 h (Nat.zero_add _) (by rw [ycpy_0]; exact hm)
  rw [nI_0] at e1
  have hdl : (L.drop (p + x)).length = L.length - (p + x) := List.length_drop
  have w2 := zMd_pre (p := p + n) w1 (by rw [ycpy_len (by omega) (by omega)]; omega)
  have e2 : (ycpy (L.drop (p + x)) L p n).take (p + n) = L.take p ++ (L.drop (p + x)).take n := by
    unfold ycpy
    exact List.take_left' (by rw [List.length_append, List.length_take, List.length_take]; omega)
  rw [e2] at w2
  have h2 := w1.1
  unfold zMo at h2
  refine ⟨_, ?_, w2, zfm_tr f1 ⟨fun q q1 q2 q3 => zup_ne q1, rfl⟩⟩
  have hs : nI (p + (p + x + n)) - nI (p + x) = nI (p + n) := by
    rw [show p + (p + x + n) = (p + x) + (p + n) by omega, nI_sub']
  rw [zc_218, zs_218_0, zs_218_1 znw_u, e1]
  simp only [zs_218_0, zs_218_1, zs_218_3, zs_218_5, zs_218_6, zs_218_7, zs_218_8, zs_218_11, zs_218_12, zs_218_15, zs_218_16, zs_218_18, zs_218_19, zs_218_20, zs_218_23, zs_218_24, zs_218_26, zs_218_27, zs_218_28, zs_218_29, zs_218_30, zs_218_33, zs_218_34, zs_218_36, zs_218_37, zs_218_38, zs_218_41, zs_218_42, zs_218_44, zs_218_45, zs_218_46, zs_218_47, zs_218_50, zs_218_53, zs_218_54, zs_218_55, zs_218_56, zs_218_57, zs_218_58, zs_218_59, zs_218_62, h2, nI_add, hs, zmp_11, yup_yup]
theorem e_219 {h : zH} {p : Nat} {v : Int32} (hm : zMd h m F L) (hp : p ≤ L.length) (hp7 : p < 700) : ∃ h', zcall zP sv (d + 2) 219 [.ref m, .int (nI p), .int v] h = some (.inl none, h') ∧ zMd h' m F (L.take p ++ [(nI 99, v)]) ∧ zfm m h h' := by
  have h1 := hm.1
  unfold zMo at h1
  have w1 := zMd_pre hm hp
  have hlen : (L.take p).length = p := by rw [List.length_take]; omega
  obtain ⟨h', e, w, f⟩ := e_216 (sv := sv) (d := d) (k := nI 99) (v := v) w1 (by omega) ynr_99
  refine ⟨h', ?_, w, zfm_tr ⟨fun q q1 q2 q3 => zup_ne q1, rfl⟩ f⟩
  have hrc : ∀ X : zR, zrc (13, zMF m (yup F 11 (nI p))) 13 X = X := fun X => zrc_k
  simp only [zc_219, zs_219_0, zs_219_1, zs_219_2, zs_219_5, zs_219_6, zs_219_8, zs_219_9, zs_219_12, h1, zmp_11, yup_yup, zup_at, hrc, e, zbk_v, zts_n]
theorem e_220 {h : zH} {i : Nat} {k v c : Int32} (hm : zMd h m F L) (hi : L[i]? = some (k, v)) : zcall zP sv (d + 1) 220 [.ref m, .int (nI i), .int c] h = some (.inl (some (.int (yb (decide (k = nI 99) && decide (v = c))))), h) := by
  obtain ⟨A, B, a1, a2, a3, a4, a5⟩ := e_made hm.2 hi
  have h1 := hm.1
  unfold zMo at h1
  by_cases g1 : k = nI 99
  · by_cases g2 : v = c
    · simp only [zc_220, zs_220_0, zs_220_1, zs_220_4, zs_220_5, zs_220_6, zs_220_8, zs_220_11, zs_220_12, zs_220_15, zs_220_16, zs_220_17, zs_220_18, zs_220_21, zs_220_22, zs_220_25, zs_220_26, h1, zmf_9, zmf_10, a1, a2, a3, a4, if_pos g1, if_pos g2, zty_51, zgd_t, decide_eq_true g1, decide_eq_true g2, Bool.and_self, yb_t]
    · simp only [zc_220, zs_220_0, zs_220_1, zs_220_4, zs_220_5, zs_220_6, zs_220_8, zs_220_11, zs_220_12, zs_220_15, zs_220_16, zs_220_17, zs_220_18, zs_220_21, zs_220_22, zs_220_25, zs_220_26, h1, zmf_9, zmf_10, a1, a2, a3, a4, if_pos g1, if_neg g2, zty_50, zgd_t, decide_eq_true g1, decide_eq_false g2, Bool.and_false, yb_f]
  · simp only [zc_220, zs_220_0, zs_220_1, zs_220_4, zs_220_5, zs_220_6, zs_220_8, zs_220_11, zs_220_12, zs_220_15, zs_220_16, zs_220_17, zs_220_18, zs_220_21, zs_220_22, zs_220_25, zs_220_26, h1, zmf_9, zmf_10, a1, a2, a3, a4, if_neg g1, zty_50, zgd_t, decide_eq_false g1, Bool.false_and, yb_f]
end ZFE

section ZFG
variable {sv : Nat → Value} {d : Nat} {h : zH} {m : Nat} {F : Nat → Int32}
theorem e_221l {pre s1 s2 : yP} (hm : zMd h m F (pre ++ s1 ++ s2)) (hl : s1.length = s2.length) (h7 : pre.length + s1.length + s2.length ≤ 700) : ∀ j k, k + j = s1.length → s1.take k = s2.take k → zrun zP sv (zcall zP sv d) 221 21 [.val (.ref m), .val (.int (nI pre.length)), .val (.int (nI (pre.length + s1.length))), .val (.int (nI 1)), .val (.int (nI k))] [] h = some (.inl (some (.int (yb (decide (s1 = s2))))), h) := by
  have h1 := hm.1
  unfold zMo at h1
  have hlen : (pre ++ s1 ++ s2).length = pre.length + s1.length + s2.length := by rw [List.length_append, List.length_append]
  rw [hlen] at h1
  have hsub : nI (pre.length + s1.length + s2.length) - nI (pre.length + s1.length) = nI s1.length := by rw [nI_sub', hl]
  intro j
  induction j with
  | zero =>
    intro k hk ht
    obtain rfl : k = s1.length := by omega
    have he : s1 = s2 := by
      rw [List.take_length] at ht
      rw [ht, List.take_of_length_le (by omega)]
    rw [decide_eq_true he, yb_t]
    simp only [zs_221_0, zs_221_1, zs_221_2, zs_221_3, zs_221_4, zs_221_7, zs_221_8, zs_221_9, zs_221_12, zs_221_13, zs_221_16, zs_221_17, zs_221_18, zs_221_19, zs_221_21, zs_221_23, zs_221_24, zs_221_27, zs_221_28, zs_221_29, zs_221_32, zs_221_33, zs_221_36, zs_221_37, zs_221_40, zs_221_41, zs_221_43, zs_221_44, zs_221_45, zs_221_46, zs_221_49, zs_221_50, zs_221_52, zs_221_53, zs_221_54, zs_221_57, zs_221_58, zs_221_61, zs_221_62, zs_221_64, zs_221_65, zs_221_66, zs_221_67, zs_221_70, zs_221_71, zs_221_73, zs_221_74, zs_221_75, zs_221_78, zs_221_79, zs_221_82, zs_221_83, zs_221_84, zs_221_87, zs_221_90, zs_221_91, h1, zmf_11, yup_eq, hsub, Int32.lt_irrefl, ↓reduceIte, zty_51, zgd_t]
  | succ j ih =>
    intro k hk ht
    obtain ⟨x, hx⟩ : ∃ x, s1[k]? = some x := ⟨_, List.getElem?_eq_getElem (by omega)⟩
    obtain ⟨y, hy⟩ : ∃ y, s2[k]? = some y := ⟨_, List.getElem?_eq_getElem (by omega)⟩
    have hx1 : (pre ++ s1 ++ s2)[pre.length + k]? = some (x.1, x.2) := by
      rw [List.getElem?_append_left (by rw [List.length_append]; omega), List.getElem?_append_right (by omega), show pre.length + k - pre.length = k by omega]
      exact hx
    have hy1 : (pre ++ s1 ++ s2)[pre.length + s1.length + k]? = some (y.1, y.2) := by
      rw [List.getElem?_append_right (by rw [List.length_append]; omega), List.length_append, show pre.length + s1.length + k - (pre.length + s1.length) = k by omega]
      exact hy
    obtain ⟨A, B, a1, a2, a3, a4, a5⟩ := e_made hm.2 hx1
    obtain ⟨A', B', b1, b2, b3, b4, b5⟩ := e_made hm.2 hy1
    rw [a1] at b1
    rw [a2] at b2
    rw [← (Prod.mk.inj b1).2] at b3
    rw [← (Prod.mk.inj b2).2] at b4
    have g1 : nI k < nI s1.length := nI_lt (by omega) (by omega)
    by_cases c1 : x.1 = y.1 ∧ x.2 = y.2
    · have e := ih (k + 1) (by omega) (by
        rw [List.take_add_one, List.take_add_one, ht, hx, hy, Prod.ext c1.1 c1.2])
      rw [zs_221_21, zs_221_23, zs_221_24, h1, zmf_11, yup_eq, zs_221_27, zs_221_28, hsub, zs_221_29, if_pos g1]
      simp (disch := exact znw_i) only [zs_221_0, zs_221_1, zs_221_2, zs_221_3, zs_221_4, zs_221_7, zs_221_8, zs_221_9, zs_221_12, zs_221_13, zs_221_16, zs_221_17, zs_221_18, zs_221_19, zs_221_23, zs_221_24, zs_221_27, zs_221_28, zs_221_29, zs_221_32, zs_221_33, zs_221_36, zs_221_37, zs_221_40, zs_221_41, zs_221_43, zs_221_44, zs_221_45, zs_221_46, zs_221_49, zs_221_50, zs_221_52, zs_221_53, zs_221_54, zs_221_57, zs_221_58, zs_221_61, zs_221_62, zs_221_64, zs_221_65, zs_221_66, zs_221_67, zs_221_70, zs_221_71, zs_221_73, zs_221_74, zs_221_75, zs_221_78, zs_221_79, zs_221_82, zs_221_83, zs_221_84, zs_221_91, h1, zmf_9, zmf_10, nI_1e0, nI_add, a1, a2, a3, a4, b3, b4, if_pos c1.1, if_pos c1.2, ↓reduceIte]
      rw [zs_221_87]
      exact e
    · have hne : ¬ s1 = s2 := fun e => by
        rw [e, hy] at hx
        injection hx with hx
        exact c1 ⟨by rw [hx], by rw [hx]⟩
      rw [decide_eq_false hne, yb_f]
      have e0 : zrun zP sv (zcall zP sv d) 221 21 [.val (.ref m), .val (.int (nI pre.length)), .val (.int (nI (pre.length + s1.length))), .val (.int (nI 1)), .val (.int (nI k))] [] h = zrun zP sv (zcall zP sv d) 221 21 [.val (.ref m), .val (.int (nI pre.length)), .val (.int (nI (pre.length + s1.length))), .val (.int 0), .val (.int (nI (k + 1)))] [] h := by
        rw [zs_221_21, zs_221_23, zs_221_24, h1, zmf_11, yup_eq, zs_221_27, zs_221_28, hsub, zs_221_29, if_pos g1]
        by_cases c2 : x.1 = y.1
        · have c3 : ¬ x.2 = y.2 := fun g => c1 ⟨c2, g⟩
          simp (disch := exact znw_i) only [zs_221_0, zs_221_1, zs_221_2, zs_221_3, zs_221_4, zs_221_7, zs_221_8, zs_221_9, zs_221_12, zs_221_13, zs_221_16, zs_221_17, zs_221_18, zs_221_19, zs_221_23, zs_221_24, zs_221_27, zs_221_28, zs_221_29, zs_221_32, zs_221_33, zs_221_36, zs_221_37, zs_221_40, zs_221_41, zs_221_43, zs_221_44, zs_221_45, zs_221_46, zs_221_49, zs_221_50, zs_221_52, zs_221_53, zs_221_54, zs_221_57, zs_221_58, zs_221_61, zs_221_62, zs_221_64, zs_221_65, zs_221_66, zs_221_67, zs_221_70, zs_221_71, zs_221_73, zs_221_74, zs_221_75, zs_221_78, zs_221_79, zs_221_82, zs_221_83, zs_221_84, zs_221_91, h1, zmf_9, zmf_10, nI_1e0, nI_add, a1, a2, a3, a4, b3, b4, if_pos c2, if_neg c3, ↓reduceIte]
          rw [zs_221_87]
        · simp (disch := exact znw_i) only [zs_221_0, zs_221_1, zs_221_2, zs_221_3, zs_221_4, zs_221_7, zs_221_8, zs_221_9, zs_221_12, zs_221_13, zs_221_16, zs_221_17, zs_221_18, zs_221_19, zs_221_23, zs_221_24, zs_221_27, zs_221_28, zs_221_29, zs_221_32, zs_221_33, zs_221_36, zs_221_37, zs_221_40, zs_221_41, zs_221_43, zs_221_44, zs_221_45, zs_221_46, zs_221_49, zs_221_50, zs_221_52, zs_221_53, zs_221_54, zs_221_57, zs_221_58, zs_221_61, zs_221_62, zs_221_64, zs_221_65, zs_221_66, zs_221_67, zs_221_70, zs_221_71, zs_221_73, zs_221_74, zs_221_75, zs_221_78, zs_221_79, zs_221_82, zs_221_83, zs_221_84, zs_221_91, h1, zmf_9, zmf_10, nI_1e0, nI_add, a1, a2, a3, a4, b3, b4, if_neg c2, ↓reduceIte]
          rw [zs_221_87]
      rw [e0, zs_221_21, zs_221_23, zs_221_24, h1, zmf_11, yup_eq, zs_221_27, zs_221_28, hsub, zs_221_29]
      by_cases c4 : k + 1 < s1.length
      · rw [if_pos (nI_lt c4 (by omega))]
        simp only [zs_221_0, zs_221_1, zs_221_2, zs_221_3, zs_221_4, zs_221_7, zs_221_8, zs_221_9, zs_221_12, zs_221_13, zs_221_16, zs_221_17, zs_221_18, zs_221_19, zs_221_21, zs_221_23, zs_221_24, zs_221_27, zs_221_28, zs_221_29, zs_221_32, zs_221_33, zs_221_36, zs_221_37, zs_221_40, zs_221_41, zs_221_43, zs_221_44, zs_221_45, zs_221_46, zs_221_49, zs_221_50, zs_221_52, zs_221_53, zs_221_54, zs_221_57, zs_221_58, zs_221_61, zs_221_62, zs_221_64, zs_221_65, zs_221_66, zs_221_67, zs_221_70, zs_221_71, zs_221_73, zs_221_74, zs_221_75, zs_221_78, zs_221_79, zs_221_82, zs_221_83, zs_221_84, zs_221_87, zs_221_90, zs_221_91, ↓reduceIte, zty_50, zgd_t]
      · rw [if_neg (nI_nlt (by omega) (by omega))]
        simp only [zs_221_0, zs_221_1, zs_221_2, zs_221_3, zs_221_4, zs_221_7, zs_221_8, zs_221_9, zs_221_12, zs_221_13, zs_221_16, zs_221_17, zs_221_18, zs_221_19, zs_221_21, zs_221_23, zs_221_24, zs_221_27, zs_221_28, zs_221_29, zs_221_32, zs_221_33, zs_221_36, zs_221_37, zs_221_40, zs_221_41, zs_221_43, zs_221_44, zs_221_45, zs_221_46, zs_221_49, zs_221_50, zs_221_52, zs_221_53, zs_221_54, zs_221_57, zs_221_58, zs_221_61, zs_221_62, zs_221_64, zs_221_65, zs_221_66, zs_221_67, zs_221_70, zs_221_71, zs_221_73, zs_221_74, zs_221_75, zs_221_78, zs_221_79, zs_221_82, zs_221_83, zs_221_84, zs_221_87, zs_221_90, zs_221_91, zty_50, zgd_t]
theorem e_221 {pre s1 s2 : yP} (hm : zMd h m F (pre ++ s1 ++ s2)) : zcall zP sv (d + 1) 221 [.ref m, .int (nI pre.length), .int (nI (pre.length + s1.length))] h = some (.inl (some (.int (yb (decide (s1 = s2))))), h) := by
  have h7 : pre.length + s1.length + s2.length ≤ 700 := by
    obtain ⟨_, A, B, _, _, _, _, _, _, a7⟩ := hm
    rw [List.length_append, List.length_append] at a7
    exact a7
  have h1 := hm.1
  unfold zMo at h1
  have hlen : (pre ++ s1 ++ s2).length = pre.length + s1.length + s2.length := by rw [List.length_append, List.length_append]
  rw [hlen] at h1
  have hsub : nI (pre.length + s1.length + s2.length) - nI (pre.length + s1.length) = nI s2.length := nI_sub'
  have hsub2 : nI (pre.length + s1.length) - nI pre.length = nI s1.length := nI_sub'
  by_cases hl : s1.length = s2.length
  · have e := e_221l (sv := sv) (d := d) hm hl h7 s1.length 0 (Nat.zero_add _) rfl
    rw [nI_0] at e
    have g0 : nI s1.length = nI s2.length := by rw [hl]
    rw [zc_221]
    simp (disch := exact znw_u) only [zs_221_0, zs_221_1, zs_221_2, zs_221_3, zs_221_4, zs_221_7, zs_221_8, zs_221_9, zs_221_12, zs_221_13, zs_221_16, zs_221_17, zs_221_18, zs_221_19, h1, zmf_11, yup_eq, hsub, hsub2, if_pos g0]
    exact e
  · have hne : ¬ s1 = s2 := fun g => hl (congrArg List.length g)
    rw [decide_eq_false hne, yb_f]
    have g0 : ¬ nI s1.length = nI s2.length := fun g => hl ((nI_eq (by omega) (by omega)).mp g)
    rw [zc_221]
    by_cases c : (0 : Int32) < nI s2.length
    · simp (disch := exact znw_u) only [zs_221_0, zs_221_1, zs_221_2, zs_221_3, zs_221_4, zs_221_7, zs_221_8, zs_221_9, zs_221_12, zs_221_13, zs_221_16, zs_221_17, zs_221_18, zs_221_19, zs_221_21, zs_221_23, zs_221_24, zs_221_27, zs_221_28, zs_221_29, zs_221_32, zs_221_33, zs_221_36, zs_221_37, zs_221_40, zs_221_41, zs_221_43, zs_221_44, zs_221_45, zs_221_46, zs_221_49, zs_221_50, zs_221_52, zs_221_53, zs_221_54, zs_221_57, zs_221_58, zs_221_61, zs_221_62, zs_221_64, zs_221_65, zs_221_66, zs_221_67, zs_221_70, zs_221_71, zs_221_73, zs_221_74, zs_221_75, zs_221_78, zs_221_79, zs_221_82, zs_221_83, zs_221_84, zs_221_87, zs_221_90, zs_221_91, h1, zmf_11, yup_eq, hsub, hsub2, if_neg g0, if_pos c, zty_50, zgd_t, ↓reduceIte]
    · simp (disch := exact znw_u) only [zs_221_0, zs_221_1, zs_221_2, zs_221_3, zs_221_4, zs_221_7, zs_221_8, zs_221_9, zs_221_12, zs_221_13, zs_221_16, zs_221_17, zs_221_18, zs_221_19, zs_221_21, zs_221_23, zs_221_24, zs_221_27, zs_221_28, zs_221_29, zs_221_32, zs_221_33, zs_221_36, zs_221_37, zs_221_40, zs_221_41, zs_221_43, zs_221_44, zs_221_45, zs_221_46, zs_221_49, zs_221_50, zs_221_52, zs_221_53, zs_221_54, zs_221_57, zs_221_58, zs_221_61, zs_221_62, zs_221_64, zs_221_65, zs_221_66, zs_221_67, zs_221_70, zs_221_71, zs_221_73, zs_221_74, zs_221_75, zs_221_78, zs_221_79, zs_221_82, zs_221_83, zs_221_84, zs_221_87, zs_221_90, zs_221_91, h1, zmf_11, yup_eq, hsub, hsub2, if_neg g0, if_neg c, zty_50, zgd_t]
end ZFG
/-- prefix forms decode uniquely -/
theorem yva_inj {k v v' : Int32} (h : yva k v = yva k v') : v = v' := by
  unfold yva at h
  by_cases g : k = nI 118
  · rw [if_pos g, if_pos g] at h
    have := congrArg (fun x => x + nI 97) h
    simp only [Int32.sub_add_cancel] at this
    exact this
  · rw [if_neg g, if_neg g] at h
    exact h
theorem ypr_yeq : ∀ a b : yT, yeq a b = true → ypr a = ypr b
  | .leaf, .leaf, _ => rfl
  | .leaf, .inner _ _ _ _ _, h => by cases h
  | .inner _ _ _ _ _, .leaf, h => by cases h
  | .inner _ k v l r, .inner _ k' v' l' r', h => by
    have h' : (decide (k = k') && decide (v = v') && yeq l l' && yeq r r') = true := h
    rw [Bool.and_eq_true, Bool.and_eq_true, Bool.and_eq_true] at h'
    obtain ⟨⟨⟨h1, h2⟩, h3⟩, h4⟩ := h'
    obtain rfl := of_decide_eq_true h1
    obtain rfl := of_decide_eq_true h2
    show (k, yva k v) :: (ypr l ++ ypr r) = (k, yva k v) :: (ypr l' ++ ypr r')
    rw [ypr_yeq l l' h3, ypr_yeq r r' h4]
theorem ypr_dec : ∀ (a b : yT) (x y : yP), (a = .leaf ∨ ytw a = true) → (b = .leaf ∨ ytw b = true) → (a = .leaf ↔ b = .leaf) → ypr a ++ x = ypr b ++ y → yeq a b = true ∧ x = y
  | .leaf, .leaf, x, y, _, _, _, h => ⟨rfl, h⟩
  | .leaf, .inner _ _ _ _ _, x, y, _, _, hi, _ => by cases hi.mp rfl
  | .inner _ _ _ _ _, .leaf, x, y, _, _, hi, _ => by cases hi.mpr rfl
  | .inner n k v l r, .inner n' k' v' l' r', x, y, ha, hb, _, h => by
    have ha' := ha.resolve_left (fun g => by cases g)
    have hb' := hb.resolve_left (fun g => by cases g)
    have h0 : (k, yva k v) :: (ypr l ++ ypr r ++ x) = (k', yva k' v') :: (ypr l' ++ ypr r' ++ y) := h
    injection h0 with h1 h2
    injection h1 with h3 h4
    subst h3
    obtain rfl := yva_inj h4
    rw [List.append_assoc, List.append_assoc] at h2
    have key : (l = .leaf ∨ ytw l = true) ∧ (r = .leaf ∨ ytw r = true) ∧ (l' = .leaf ∨ ytw l' = true) ∧ (r' = .leaf ∨ ytw r' = true) ∧ (l = .leaf ↔ l' = .leaf) ∧ (r = .leaf ↔ r' = .leaf) := by
      have nl : ∀ u : yT, ytw u = true → ¬ u = .leaf := fun u hu g => by rw [g] at hu; cases hu
      have c1 : ¬ nI 99 = nI 118 := by decide +kernel
      have c2 : ¬ nI 99 = nI 110 := by decide +kernel
      have c3 : ¬ nI 118 = nI 110 := by decide +kernel
      have c4 : yis (nI 99) = false := by decide +kernel
      have c5 : yis (nI 118) = false := by decide +kernel
      rcases ytw_el ha' with g | g | g | g <;> rcases ytw_el hb' with q | q | q | q
      · exact ⟨Or.inl g.2.1, Or.inl g.2.2, Or.inl q.2.1, Or.inl q.2.2, by simp [g.2.1, q.2.1], by simp [g.2.2, q.2.2]⟩
      · exact absurd (g.1.symm.trans q.1) c1
      · exact absurd (g.1.symm.trans q.1) c2
      · have := q.1; rw [g.1, c4] at this; cases this
      · exact absurd (q.1.symm.trans g.1) c1
      · exact ⟨Or.inl g.2.2.1, Or.inl g.2.2.2, Or.inl q.2.2.1, Or.inl q.2.2.2, by simp [g.2.2.1, q.2.2.1], by simp [g.2.2.2, q.2.2.2]⟩
      · exact absurd (g.1.symm.trans q.1) c3
      · have := q.1; rw [g.1, c5] at this; cases this
      · exact absurd (q.1.symm.trans g.1) c2
      · exact absurd (q.1.symm.trans g.1) c3
      · exact ⟨Or.inr g.2.2.1, Or.inl g.2.2.2, Or.inr q.2.2.1, Or.inl q.2.2.2, ⟨fun e => absurd e (nl _ g.2.2.1), fun e => absurd e (nl _ q.2.2.1)⟩, by simp [g.2.2.2, q.2.2.2]⟩
      · exact absurd g.1 (yis_n110 q.1)
      · have := g.1; rw [q.1, c4] at this; cases this
      · have := g.1; rw [q.1, c5] at this; cases this
      · exact absurd q.1 (yis_n110 g.1)
      · exact ⟨Or.inr g.2.2.1, Or.inr g.2.2.2, Or.inr q.2.2.1, Or.inr q.2.2.2, ⟨fun e => absurd e (nl _ g.2.2.1), fun e => absurd e (nl _ q.2.2.1)⟩, ⟨fun e => absurd e (nl _ g.2.2.2), fun e => absurd e (nl _ q.2.2.2)⟩⟩
    obtain ⟨i1, i2⟩ := ypr_dec l l' _ _ key.1 key.2.2.1 key.2.2.2.2.1 h2
    obtain ⟨j1, j2⟩ := ypr_dec r r' _ _ key.2.1 key.2.2.2.1 key.2.2.2.2.2 i2
    refine ⟨?_, j2⟩
    show (decide (k = k) && decide (v = v) && yeq l l' && yeq r r') = true
    rw [i1, j1, decide_eq_true rfl, decide_eq_true rfl]
    rfl
theorem ypr_eq {a b : yT} (ha : ytw a = true) (hb : ytw b = true) : decide (ypr a = ypr b) = yeq a b := by
  cases h : yeq a b with
  | true => exact decide_eq_true (ypr_yeq a b h)
  | false =>
    refine decide_eq_false (fun g => ?_)
    have nl : ∀ u : yT, ytw u = true → ¬ u = .leaf := fun u hu g => by rw [g] at hu; cases hu
    have := (ypr_dec a b [] [] (Or.inr ha) (Or.inr hb) ⟨fun e => absurd e (nl _ ha), fun e => absurd e (nl _ hb)⟩ (by rw [g])).1
    rw [h] at this
    cases this

def ynk (L : yP) : Prop := ∀ q, q ∈ L → ynr q.1 = q.1
theorem ynk_app {L K : yP} (h1 : ynk L) (h2 : ynk K) : ynk (L ++ K) := fun q hq => (List.mem_append.mp hq).elim (h1 q) (h2 q)
theorem ynk_cons {x : Int32 × Int32} {K : yP} (h1 : ynr x.1 = x.1) (h2 : ynk K) : ynk (x :: K) := fun q hq => by
  rcases List.mem_cons.mp hq with g | g
  · rw [g]; exact h1
  · exact h2 q g
theorem ynk_nil : ynk [] := fun q hq => by cases hq
theorem ynk_ypr : ∀ t : yT, (t = .leaf ∨ ytw t = true) → ynk (ypr t)
  | .leaf, _ => ynk_nil
  | .inner n k v l r, ht => by
    have hh := ht.resolve_left (fun g => by cases g)
    have key : ynr k = k ∧ (l = .leaf ∨ ytw l = true) ∧ (r = .leaf ∨ ytw r = true) := by
      rcases ytw_el hh with g | g | g | g
      · exact ⟨by rw [g.1, ynr_99], Or.inl g.2.1, Or.inl g.2.2⟩
      · exact ⟨by rw [g.1, ynr_118], Or.inl g.2.2.1, Or.inl g.2.2.2⟩
      · exact ⟨by rw [g.1, ynr_110], Or.inr g.2.2.1, Or.inl g.2.2.2⟩
      · exact ⟨ynr_o g.1, Or.inr g.2.2.1, Or.inr g.2.2.2⟩
    exact ynk_cons key.1 (ynk_app (ynk_ypr l key.2.1) (ynk_ypr r key.2.2))
theorem ypr_head {t : yT} (ht : ytw t = true) : ∃ u, ypr t = (yk t, yva (yk t) (yv t)) :: u ∧ u.length + 1 = ysz t ∧ (yk t = nI 110 → u = ypr (yl t)) := by
  cases t with
  | leaf => cases ht
  | inner n k v l r =>
    refine ⟨ypr l ++ ypr r, rfl, ?_, fun hk => ?_⟩
    · rw [List.length_append, ypr_len, ypr_len]; rfl
    · have hk' : k = nI 110 := hk
      rcases ytw_el ht with g | g | g | g
      · exact absurd (g.1.symm.trans hk') (by decide +kernel)
      · exact absurd (g.1.symm.trans hk') (by decide +kernel)
      · rw [g.2.2.2]
        show ypr l ++ [] = ypr l
        rw [List.append_nil]
      · exact absurd hk' (yis_n110 g.1)
theorem yva_99 {v : Int32} : yva (nI 99) v = v := by
  unfold yva
  rw [if_neg (by decide +kernel)]
theorem yva_110 {v : Int32} : yva (nI 110) v = v := by
  unfold yva
  rw [if_neg (by decide +kernel)]
theorem yva_o {k v : Int32} (hk : yis k = true) : yva k v = v := by
  unfold yva
  rcases yis_k hk with g | g | g <;> rw [g, if_neg (by decide +kernel)]
theorem ynu_va {t : yT} {c : Int32} : (decide (yk t = nI 99) && decide (yva (yk t) (yv t) = c)) = ynu t c := by
  unfold ynu
  by_cases h : yk t = nI 99
  · rw [h, yva_99]
  · rw [decide_eq_false h]; rfl
theorem ypr_cn {v : Int32} : ypr (ycn v) = [(nI 99, v)] := by
  show [(nI 99, yva (nI 99) v)] = _
  rw [yva_99]
theorem ypr_mk {k v : Int32} {l r : yT} : ypr (ymk k v l r) = (k, yva k v) :: (ypr l ++ ypr r) := rfl
theorem zrc_13v {vs : List Value} {X : zR} : zrc (13, vs) 13 X = X := zrc_k
section ZFH
variable {sv : Nat → Value} {d : Nat} {h : zH} {m : Nat} {F : Nat → Int32}
/-- the pieces of what was made: two operands behind a place -/
theorem yseg {qs u v : yP} {x : Int32 × Int32} : (qs ++ x :: (u ++ v)).take qs.length = qs ∧ ((qs ++ x :: (u ++ v)).drop (qs.length + 1)).take u.length = u ∧ ((qs ++ x :: (u ++ v)).drop (qs.length + (1 + u.length))).take v.length = v ∧ (qs ++ x :: (u ++ v)).length = qs.length + 1 + u.length + v.length := by
  have e1 : (qs ++ x :: (u ++ v)).drop (qs.length + 1) = u ++ v := by
    rw [show qs ++ x :: (u ++ v) = (qs ++ [x]) ++ (u ++ v) by rw [List.append_assoc]; rfl]
    exact List.drop_left' (by rw [List.length_append]; rfl)
  have e2 : (qs ++ x :: (u ++ v)).drop (qs.length + (1 + u.length)) = v := by
    rw [show qs.length + (1 + u.length) = (qs.length + 1) + u.length by omega, ← List.drop_drop, e1]
    exact List.drop_left' rfl
  refine ⟨List.take_left' rfl, ?_, ?_, ?_⟩
  · rw [e1]; exact List.take_left' rfl
  · rw [e2, List.take_of_length_le (Nat.le_refl _)]
  · rw [List.length_append, List.length_cons, List.length_append]; omega
theorem e_223 {qs : yP} {x : Int32 × Int32} {a b : yT} (hm : zMd h m F (qs ++ x :: (ypr a ++ ypr b))) (ha : ytw a = true) (hb : ytw b = true) (hq : ynk qs) (hx : ynr x.1 = x.1) : ∃ h', zcall zP sv (d + 2) 223 [.ref m, .int (nI qs.length), .int (nI (qs.length + 1 + ysz a))] h = some (.inl none, h') ∧ zMd h' m F (qs ++ ypr (if yk b = nI 110 then yl b else ymk (nI 110) 0 b .leaf)) ∧ zfm m h h' := by
  obtain ⟨s1, s2, s3, s4⟩ := yseg (qs := qs) (u := ypr a) (v := ypr b) (x := x)
  rw [ypr_len] at s2 s3
  rw [ypr_len] at s3
  rw [ypr_len, ypr_len] at s4
  obtain ⟨u, hu, hul, hu1⟩ := ypr_head hb
  have hL7 : (qs ++ x :: (ypr a ++ ypr b)).length ≤ 700 := by
    obtain ⟨_, A, B, _, _, _, _, _, _, a7⟩ := hm
    exact a7
  have hk : ynk (qs ++ x :: (ypr a ++ ypr b)) := ynk_app hq (ynk_cons hx (ynk_app (ynk_ypr a (Or.inr ha)) (ynk_ypr b (Or.inr hb))))
  have h1 := hm.1
  unfold zMo at h1
  have hi : (qs ++ x :: (ypr a ++ ypr b))[qs.length + 1 + ysz a]? = some (yk b, yva (yk b) (yv b)) := by
    have e : (qs ++ x :: (ypr a ++ ypr b)) = (qs ++ x :: ypr a) ++ ypr b := by rw [List.append_assoc]; rfl
    rw [e, List.getElem?_append_right (by rw [List.length_append, List.length_cons, ypr_len]; omega), List.length_append, List.length_cons, ypr_len, show qs.length + 1 + ysz a - (qs.length + (ysz a + 1)) = 0 by omega, hu]
    rfl
  obtain ⟨A, B, a1, a2, a3, a4, a5⟩ := e_made hm.2 hi
  by_cases c : yk b = nI 110
  · rw [if_pos c]
    have e0 : (qs ++ x :: (ypr a ++ ypr b)) = qs ++ x :: ((ypr a ++ [(yk b, yva (yk b) (yv b))]) ++ u) := by rw [hu, List.append_assoc]; rfl
    have hm' := hm
    rw [e0] at hm' hk
    obtain ⟨r1, r2, r3, r4⟩ := yseg (qs := qs) (u := ypr a ++ [(yk b, yva (yk b) (yv b))]) (v := u) (x := x)
    have hl1 : (ypr a ++ [(yk b, yva (yk b) (yv b))]).length = ysz a + 1 := by rw [List.length_append, ypr_len]; rfl
    rw [hl1] at r3 r4
    obtain ⟨h', e, w, f⟩ := e_218 (sv := sv) (d := d) (p := qs.length) (x := 1 + (ysz a + 1)) (n := u.length) hm' (by rw [r4]; omega) hk
    rw [r1, r3, hu1 c] at w
    refine ⟨h', ?_, w, f⟩
    rw [show qs.length + (1 + (ysz a + 1)) = qs.length + 1 + ysz a + 1 by omega] at e
    have e9 : (qs ++ x :: (ypr a ++ ypr b)).length = qs.length + 1 + ysz a + 1 + u.length := by rw [s4]; omega
    simp only [zc_223, zs_223_0, zs_223_1, zs_223_4, zs_223_5, zs_223_6, zs_223_8, zs_223_11, zs_223_12, zs_223_13, zs_223_14, zs_223_15, zs_223_16, zs_223_17, zs_223_20, zs_223_23, zs_223_26, zs_223_27, zs_223_30, zs_223_31, zs_223_33, zs_223_34, zs_223_35, zs_223_38, zs_223_39, zs_223_40, zs_223_41, zs_223_42, zs_223_43, zs_223_44, zs_223_45, zs_223_46, zs_223_47, zs_223_50, zs_223_53, h1, zmf_9, zmf_11, yup_eq, a1, a3, if_pos c, nI_1', zrc_13v, e9, e, zbk_v, zts_n]
  · rw [if_neg c]
    have hA : A.length = 700 ∧ B.length = 700 := by
      obtain ⟨A', B', b1, b2, b3, b4, _⟩ := hm.2
      rw [a1] at b1
      rw [a2] at b2
      have c1 := congrArg List.length (Prod.mk.inj b1).2
      have c2 := congrArg List.length (Prod.mk.inj b2).2
      rw [List.length_map, List.length_map] at c1 c2
      omega
    have w0 := zLst_set (i := qs.length) (k := nI 110) (v := 0) hm.2 (show m + 7 ≠ m + 8 by omega) (by omega) ynr_110 A B a1 a2
    have eset : (qs ++ x :: (ypr a ++ ypr b)).set qs.length (nI 110, 0) = qs ++ (nI 110, 0) :: (ypr a ++ ypr b) := by
      rw [List.set_append_right _ _ (Nat.le_refl _), Nat.sub_self]; rfl
    rw [eset] at w0
    obtain ⟨r1, r2, r3, r4⟩ := yseg (qs := qs) (u := ypr a) (v := ypr b) (x := (nI 110, 0))
    rw [ypr_len, ypr_len] at r4
    have hm2 : zMd (zup (zup h (m + 7) (21, (A.set qs.length (nI 110)).map Value.int)) (m + 8) (20, (B.set qs.length 0).map Value.int)) m F (qs ++ (nI 110, 0) :: (ypr a ++ ypr b)) := ⟨by unfold zMo; rw [zup_ne (by omega), zup_ne (by omega), h1, s4, r4], w0⟩
    have hk2 : ynk (qs ++ (nI 110, 0) :: (ypr a ++ ypr b)) := ynk_app hq (ynk_cons ynr_110 (ynk_app (ynk_ypr a (Or.inr ha)) (ynk_ypr b (Or.inr hb))))
    have f0 : zfm m h (zup (zup h (m + 7) (21, (A.set qs.length (nI 110)).map Value.int)) (m + 8) (20, (B.set qs.length 0).map Value.int)) := ⟨fun q q1 q2 q3 => by rw [zup_ne q3, zup_ne q2], rfl⟩
    have e5 : (qs ++ (nI 110, (0 : Int32)) :: (ypr a ++ ypr b)) = (qs ++ [(nI 110, 0)]) ++ (ypr a ++ ypr b) := by rw [List.append_assoc]; rfl
    have l5 : (qs ++ [(nI 110, (0 : Int32))]).length = qs.length + 1 := List.length_append
    have t1 : (qs ++ (nI 110, (0 : Int32)) :: (ypr a ++ ypr b)).take (qs.length + 1) = qs ++ [(nI 110, 0)] := by
      rw [e5]
      exact List.take_left' l5
    have t2 : ((qs ++ (nI 110, (0 : Int32)) :: (ypr a ++ ypr b)).drop (qs.length + 1 + ysz a)).take (ysz b) = ypr b := by
      have := r3
      rw [ypr_len, ypr_len, show qs.length + (1 + ysz a) = qs.length + 1 + ysz a by omega] at this
      exact this
    obtain ⟨h', e, w, f⟩ := e_218 (sv := sv) (d := d) (p := qs.length + 1) (x := ysz a) (n := ysz b) hm2 (by rw [r4]; omega) hk2
    rw [t1, t2] at w
    refine ⟨h', ?_, ?_, zfm_tr f0 f⟩
    · have z1 : ∀ Kc : zC → zR, zaset (21, A.map Value.int) 21 (nI qs.length) (.int (nI 110)) Kc = Kc (21, (A.set qs.length (ynr (nI 110))).map Value.int) := fun Kc => zsC (by omega) (by omega)
      have z2 : ∀ Kc : zC → zR, zaset (20, B.map Value.int) 20 (nI qs.length) (.int 0) Kc = Kc (20, (B.set qs.length 0).map Value.int) := fun Kc => zsI (by omega) (by omega)
      have hrc : ∀ X : zR, zrc (13, zMF m (yup F 11 (nI (qs ++ x :: (ypr a ++ ypr b)).length))) 13 X = X := fun X => zrc_k
      rw [← s4] at e
      simp (disch := omega) only [zc_223, zs_223_0, zs_223_1, zs_223_4, zs_223_5, zs_223_6, zs_223_8, zs_223_11, zs_223_12, zs_223_13, zs_223_14, zs_223_15, zs_223_16, zs_223_17, zs_223_20, zs_223_23, zs_223_26, zs_223_27, zs_223_30, zs_223_31, zs_223_33, zs_223_34, zs_223_35, zs_223_38, zs_223_39, zs_223_40, zs_223_41, zs_223_42, zs_223_43, zs_223_44, zs_223_45, zs_223_46, zs_223_47, zs_223_50, zs_223_53, h1, zmf_9, zmf_10, zmf_11, yup_eq, a1, a3, if_neg c, z1, ynr_110, zup_ne, a2, z2, nI_1', hrc, e, zbk_v, zts_n]
    · rw [ypr_mk, yva_110, show ypr (.leaf : yT) = [] from rfl, List.append_nil]
      rw [List.append_assoc] at w
      exact w
theorem yseg0 {qs u v : yP} {x : Int32 × Int32} : (qs ++ x :: (u ++ v))[qs.length + 1]? = (u ++ v)[0]? ∧ (qs ++ x :: (u ++ v))[qs.length + 1 + u.length]? = v[0]? := by
  have e1 : (qs ++ x :: (u ++ v)) = (qs ++ [x]) ++ (u ++ v) := by rw [List.append_assoc]; rfl
  have e2 : (qs ++ x :: (u ++ v)) = (qs ++ x :: u) ++ v := by rw [List.append_assoc]; rfl
  have l1 : (qs ++ [x]).length = qs.length + 1 := List.length_append
  have l2 : (qs ++ x :: u).length = qs.length + 1 + u.length := by rw [List.length_append, List.length_cons]; omega
  refine ⟨?_, ?_⟩
  · rw [e1, List.getElem?_append_right (by omega), l1, Nat.sub_self]
  · rw [e2, List.getElem?_append_right (by omega), l2, Nat.sub_self]
/-- an operator whose operands were made: the rules -/
theorem e_222t {qs : yP} {k v0 nx nd : Int32} {a b : yT} (hm : zMd h m F (qs ++ (k, v0) :: (ypr a ++ ypr b))) (hk : yis k = true) (ha : ytw a = true) (hb : ytw b = true) (hq : ynk qs) : ∃ h', zrun zP sv (zcall zP sv (d + 3)) 222 121 [.val (.ref m), .val (.int nd), .val (.int (nI qs.length)), .val (.int k), .val (.int nx), .val (.int (nI (qs.length + 1 + ysz a)))] [] h = some (.inl (some (.int nx)), h') ∧ zMd h' m F (qs ++ if yk a = nI 99 ∧ yk b = nI 99 then ypr (ycn (yop k (yv a) (yv b))) else if k = nI 43 ∧ ynu a 0 = true then ypr b else if ¬ k = nI 42 ∧ ynu b 0 = true then ypr a else if k = nI 45 ∧ ynu a 0 = true then ypr (if yk b = nI 110 then yl b else ymk (nI 110) 0 b .leaf) else if k = nI 45 ∧ yeq a b = true then ypr (ycn 0) else if k = nI 42 ∧ (ynu a 0 = true ∨ ynu b 0 = true) then ypr (ycn 0) else if k = nI 42 ∧ ynu a (nI 1) = true then ypr b else if k = nI 42 ∧ ynu b (nI 1) = true then ypr a else (k, v0) :: (ypr a ++ ypr b)) ∧ zfm m h h' := by
  obtain ⟨s1, s2, s3, s4⟩ := yseg (qs := qs) (u := ypr a) (v := ypr b) (x := (k, v0))
  obtain ⟨z1, z2⟩ := yseg0 (qs := qs) (u := ypr a) (v := ypr b) (x := (k, v0))
  rw [ypr_len] at s2 s3 z2
  rw [ypr_len] at s3
  rw [ypr_len, ypr_len] at s4
  obtain ⟨ua, hua, _, _⟩ := ypr_head ha
  obtain ⟨ub, hub, _, _⟩ := ypr_head hb
  have i1 : (qs ++ (k, v0) :: (ypr a ++ ypr b))[qs.length + 1]? = some (yk a, yva (yk a) (yv a)) := by rw [z1, hua]; rfl
  have i2 : (qs ++ (k, v0) :: (ypr a ++ ypr b))[qs.length + 1 + ysz a]? = some (yk b, yva (yk b) (yv b)) := by rw [z2, hub]; rfl
  have hK : ynk (qs ++ (k, v0) :: (ypr a ++ ypr b)) := ynk_app hq (ynk_cons (ynr_o hk) (ynk_app (ynk_ypr a (Or.inr ha)) (ynk_ypr b (Or.inr hb))))
  have hL7 : (qs ++ (k, v0) :: (ypr a ++ ypr b)).length ≤ 700 := by
    obtain ⟨_, A, B, _, _, _, _, _, _, a7⟩ := hm
    exact a7
  have h1 := hm.1
  unfold zMo at h1
  obtain ⟨A, B, a1, a2, a3, a4, a5⟩ := e_made hm.2 i1
  obtain ⟨A', B', b1, b2, b3, b4, b5⟩ := e_made hm.2 i2
  rw [a1] at b1
  rw [a2] at b2
  rw [← (Prod.mk.inj b1).2] at b3
  rw [← (Prod.mk.inj b2).2] at b4
  have m1 : ∀ c, zcall zP sv (d + 3) 220 [.ref m, .int (nI (qs.length + 1)), .int c] h = some (.inl (some (.int (yb (ynu a c)))), h) := fun c => by rw [e_220 hm i1, ynu_va]
  have m2 : ∀ c, zcall zP sv (d + 3) 220 [.ref m, .int (nI (qs.length + 1 + ysz a)), .int c] h = some (.inl (some (.int (yb (ynu b c)))), h) := fun c => by rw [e_220 hm i2, ynu_va]
  have lvb : ∃ h', zcall zP sv (d + 3) 218 [.ref m, .int (nI qs.length), .int (nI (qs.length + 1 + ysz a)), .int (nI (qs ++ (k, v0) :: (ypr a ++ ypr b)).length)] h = some (.inl none, h') ∧ zMd h' m F (qs ++ ypr b) ∧ zfm m h h' := by
    obtain ⟨h', e, w, f⟩ := e_218 (sv := sv) (d := d + 2) (p := qs.length) (x := 1 + ysz a) (n := ysz b) hm (by rw [s4]; omega) hK
    rw [s1, s3] at w
    rw [show qs.length + (1 + ysz a) = qs.length + 1 + ysz a by omega, ← s4] at e
    exact ⟨h', e, w, f⟩
  have lva : ∃ h', zcall zP sv (d + 3) 218 [.ref m, .int (nI qs.length), .int (nI (qs.length + 1)), .int (nI (qs.length + 1 + ysz a))] h = some (.inl none, h') ∧ zMd h' m F (qs ++ ypr a) ∧ zfm m h h' := by
    obtain ⟨h', e, w, f⟩ := e_218 (sv := sv) (d := d + 2) (p := qs.length) (x := 1) (n := ysz a) hm (by rw [s4]; omega) hK
    rw [s1, s2] at w
    exact ⟨h', e, w, f⟩
  have bec : ∀ v, ∃ h', zcall zP sv (d + 3) 219 [.ref m, .int (nI qs.length), .int v] h = some (.inl none, h') ∧ zMd h' m F (qs ++ ypr (ycn v)) ∧ zfm m h h' := fun v => by
    obtain ⟨h', e, w, f⟩ := e_219 (sv := sv) (d := d + 1) (p := qs.length) (v := v) hm (by rw [s4]; omega) (by omega)
    rw [s1, ← ypr_cn] at w
    exact ⟨h', e, w, f⟩
  by_cases c0 : yk a = nI 99 ∧ yk b = nI 99
  · rw [if_pos c0]
    obtain ⟨h', e, w, f⟩ := bec (yop k (yv a) (yv b))
    refine ⟨h', ?_, w, f⟩
    rw [c0.1, yva_99] at a4
    rw [c0.2, yva_99] at b4
    rw [c0.1] at a3
    rw [c0.2] at b3
    simp only [zs_222_0, zs_222_1, zs_222_4, zs_222_5, zs_222_6, zs_222_9, zs_222_10, zs_222_11, zs_222_12, zs_222_13, zs_222_14, zs_222_15, zs_222_18, zs_222_19, zs_222_20, zs_222_23, zs_222_24, zs_222_27, zs_222_30, zs_222_31, zs_222_32, zs_222_33, zs_222_34, zs_222_35, zs_222_36, zs_222_37, zs_222_38, zs_222_41, zs_222_43, zs_222_44, zs_222_46, zs_222_49, zs_222_50, zs_222_53, zs_222_54, zs_222_55, zs_222_56, zs_222_57, zs_222_59, zs_222_62, zs_222_63, zs_222_64, zs_222_65, zs_222_68, zs_222_69, zs_222_70, zs_222_71, zs_222_72, zs_222_73, zs_222_76, zs_222_79, zs_222_80, zs_222_83, zs_222_84, zs_222_85, zs_222_86, zs_222_87, zs_222_89, zs_222_92, zs_222_93, zs_222_94, zs_222_95, zs_222_96, zs_222_97, zs_222_98, zs_222_101, zs_222_104, zs_222_106, zs_222_107, zs_222_108, zs_222_111, zs_222_113, zs_222_114, zs_222_116, zs_222_119, zs_222_121, zs_222_122, zs_222_125, zs_222_126, zs_222_127, zs_222_128, zs_222_129, zs_222_131, zs_222_134, zs_222_135, zs_222_138, zs_222_140, zs_222_141, zs_222_143, zs_222_146, zs_222_147, zs_222_148, zs_222_149, zs_222_150, zs_222_153, zs_222_154, zs_222_155, zs_222_156, zs_222_157, zs_222_158, zs_222_161, zs_222_163, zs_222_164, zs_222_167, zs_222_170, zs_222_173, zs_222_174, zs_222_176, zs_222_179, zs_222_180, zs_222_181, zs_222_182, zs_222_183, zs_222_184, zs_222_187, zs_222_190, zs_222_191, zs_222_192, zs_222_194, zs_222_195, zs_222_198, zs_222_201, zs_222_204, zs_222_205, zs_222_207, zs_222_210, zs_222_211, zs_222_213, zs_222_214, zs_222_217, zs_222_220, zs_222_221, zs_222_222, zs_222_223, zs_222_224, zs_222_225, zs_222_227, zs_222_230, zs_222_233, zs_222_234, zs_222_236, zs_222_239, zs_222_240, zs_222_241, zs_222_242, zs_222_243, zs_222_244, zs_222_247, zs_222_250, zs_222_251, zs_222_252, zs_222_254, zs_222_257, zs_222_260, zs_222_261, zs_222_263, zs_222_266, zs_222_267, zs_222_268, zs_222_269, zs_222_270, zs_222_272, zs_222_275, zs_222_278, zs_222_279, zs_222_280, zs_222_281, zs_222_284, zs_222_287, zs_222_288, zs_222_290, zs_222_293, zs_222_294, zs_222_295, zs_222_296, zs_222_297, zs_222_298, zs_222_301, zs_222_304, zs_222_305, zs_222_307, zs_222_308, zs_222_311, zs_222_314, zs_222_315, zs_222_316, zs_222_317, zs_222_320, zs_222_323, zs_222_324, zs_222_326, zs_222_329, zs_222_330, zs_222_331, zs_222_332, zs_222_333, zs_222_334, zs_222_337, zs_222_340, zs_222_341, zs_222_342, zs_222_344, zs_222_345, zs_222_348, zs_222_351, zs_222_354, zs_222_355, zs_222_357, zs_222_360, zs_222_361, zs_222_363, zs_222_364, zs_222_367, zs_222_370, zs_222_371, zs_222_372, zs_222_373, zs_222_374, zs_222_375, zs_222_377, zs_222_380, zs_222_382, h1, zmf_9, zmf_10, a1, a2, nI_1', a3, a4, b3, b4, ↓reduceIte, zrc_13v, e_211 hk, e, zbk_v, zts_s, zts_n]
  · rw [if_neg c0]
    have e0 : zrun zP sv (zcall zP sv (d + 3)) 222 121 [.val (.ref m), .val (.int nd), .val (.int (nI qs.length)), .val (.int k), .val (.int nx), .val (.int (nI (qs.length + 1 + ysz a)))] [] h = zrun zP sv (zcall zP sv (d + 3)) 222 173 [.val (.ref m), .val (.int nd), .val (.int (nI qs.length)), .val (.int k), .val (.int nx), .val (.int (nI (qs.length + 1 + ysz a)))] [] h := by
      by_cases c1 : yk a = nI 99
      · have c2 : ¬ yk b = nI 99 := fun g => c0 ⟨c1, g⟩
        simp only [zs_222_0, zs_222_1, zs_222_4, zs_222_5, zs_222_6, zs_222_9, zs_222_10, zs_222_11, zs_222_12, zs_222_13, zs_222_14, zs_222_15, zs_222_18, zs_222_19, zs_222_20, zs_222_23, zs_222_24, zs_222_27, zs_222_30, zs_222_31, zs_222_32, zs_222_33, zs_222_34, zs_222_35, zs_222_36, zs_222_37, zs_222_38, zs_222_41, zs_222_43, zs_222_44, zs_222_46, zs_222_49, zs_222_50, zs_222_53, zs_222_54, zs_222_55, zs_222_56, zs_222_57, zs_222_59, zs_222_62, zs_222_63, zs_222_64, zs_222_65, zs_222_68, zs_222_69, zs_222_70, zs_222_71, zs_222_72, zs_222_73, zs_222_76, zs_222_79, zs_222_80, zs_222_83, zs_222_84, zs_222_85, zs_222_86, zs_222_87, zs_222_89, zs_222_92, zs_222_93, zs_222_94, zs_222_95, zs_222_96, zs_222_97, zs_222_98, zs_222_101, zs_222_104, zs_222_106, zs_222_107, zs_222_108, zs_222_111, zs_222_113, zs_222_114, zs_222_116, zs_222_119, zs_222_121, zs_222_122, zs_222_125, zs_222_126, zs_222_127, zs_222_128, zs_222_129, zs_222_131, zs_222_134, zs_222_135, zs_222_138, zs_222_140, zs_222_141, zs_222_143, zs_222_146, zs_222_147, zs_222_148, zs_222_149, zs_222_150, zs_222_153, zs_222_154, zs_222_155, zs_222_156, zs_222_157, zs_222_158, zs_222_161, zs_222_163, zs_222_164, zs_222_167, zs_222_170, zs_222_174, zs_222_176, zs_222_179, zs_222_180, zs_222_181, zs_222_182, zs_222_183, zs_222_184, zs_222_187, zs_222_190, zs_222_191, zs_222_192, zs_222_194, zs_222_195, zs_222_198, zs_222_201, zs_222_204, zs_222_205, zs_222_207, zs_222_210, zs_222_211, zs_222_213, zs_222_214, zs_222_217, zs_222_220, zs_222_221, zs_222_222, zs_222_223, zs_222_224, zs_222_225, zs_222_227, zs_222_230, zs_222_233, zs_222_234, zs_222_236, zs_222_239, zs_222_240, zs_222_241, zs_222_242, zs_222_243, zs_222_244, zs_222_247, zs_222_250, zs_222_251, zs_222_252, zs_222_254, zs_222_257, zs_222_260, zs_222_261, zs_222_263, zs_222_266, zs_222_267, zs_222_268, zs_222_269, zs_222_270, zs_222_272, zs_222_275, zs_222_278, zs_222_279, zs_222_280, zs_222_281, zs_222_284, zs_222_287, zs_222_288, zs_222_290, zs_222_293, zs_222_294, zs_222_295, zs_222_296, zs_222_297, zs_222_298, zs_222_301, zs_222_304, zs_222_305, zs_222_307, zs_222_308, zs_222_311, zs_222_314, zs_222_315, zs_222_316, zs_222_317, zs_222_320, zs_222_323, zs_222_324, zs_222_326, zs_222_329, zs_222_330, zs_222_331, zs_222_332, zs_222_333, zs_222_334, zs_222_337, zs_222_340, zs_222_341, zs_222_342, zs_222_344, zs_222_345, zs_222_348, zs_222_351, zs_222_354, zs_222_355, zs_222_357, zs_222_360, zs_222_361, zs_222_363, zs_222_364, zs_222_367, zs_222_370, zs_222_371, zs_222_372, zs_222_373, zs_222_374, zs_222_375, zs_222_377, zs_222_380, zs_222_382, h1, zmf_9, zmf_10, a1, nI_1', a3, b3, if_pos c1, if_neg c2]
      · simp only [zs_222_0, zs_222_1, zs_222_4, zs_222_5, zs_222_6, zs_222_9, zs_222_10, zs_222_11, zs_222_12, zs_222_13, zs_222_14, zs_222_15, zs_222_18, zs_222_19, zs_222_20, zs_222_23, zs_222_24, zs_222_27, zs_222_30, zs_222_31, zs_222_32, zs_222_33, zs_222_34, zs_222_35, zs_222_36, zs_222_37, zs_222_38, zs_222_41, zs_222_43, zs_222_44, zs_222_46, zs_222_49, zs_222_50, zs_222_53, zs_222_54, zs_222_55, zs_222_56, zs_222_57, zs_222_59, zs_222_62, zs_222_63, zs_222_64, zs_222_65, zs_222_68, zs_222_69, zs_222_70, zs_222_71, zs_222_72, zs_222_73, zs_222_76, zs_222_79, zs_222_80, zs_222_83, zs_222_84, zs_222_85, zs_222_86, zs_222_87, zs_222_89, zs_222_92, zs_222_93, zs_222_94, zs_222_95, zs_222_96, zs_222_97, zs_222_98, zs_222_101, zs_222_104, zs_222_106, zs_222_107, zs_222_108, zs_222_111, zs_222_113, zs_222_114, zs_222_116, zs_222_119, zs_222_121, zs_222_122, zs_222_125, zs_222_126, zs_222_127, zs_222_128, zs_222_129, zs_222_131, zs_222_134, zs_222_135, zs_222_138, zs_222_140, zs_222_141, zs_222_143, zs_222_146, zs_222_147, zs_222_148, zs_222_149, zs_222_150, zs_222_153, zs_222_154, zs_222_155, zs_222_156, zs_222_157, zs_222_158, zs_222_161, zs_222_163, zs_222_164, zs_222_167, zs_222_170, zs_222_174, zs_222_176, zs_222_179, zs_222_180, zs_222_181, zs_222_182, zs_222_183, zs_222_184, zs_222_187, zs_222_190, zs_222_191, zs_222_192, zs_222_194, zs_222_195, zs_222_198, zs_222_201, zs_222_204, zs_222_205, zs_222_207, zs_222_210, zs_222_211, zs_222_213, zs_222_214, zs_222_217, zs_222_220, zs_222_221, zs_222_222, zs_222_223, zs_222_224, zs_222_225, zs_222_227, zs_222_230, zs_222_233, zs_222_234, zs_222_236, zs_222_239, zs_222_240, zs_222_241, zs_222_242, zs_222_243, zs_222_244, zs_222_247, zs_222_250, zs_222_251, zs_222_252, zs_222_254, zs_222_257, zs_222_260, zs_222_261, zs_222_263, zs_222_266, zs_222_267, zs_222_268, zs_222_269, zs_222_270, zs_222_272, zs_222_275, zs_222_278, zs_222_279, zs_222_280, zs_222_281, zs_222_284, zs_222_287, zs_222_288, zs_222_290, zs_222_293, zs_222_294, zs_222_295, zs_222_296, zs_222_297, zs_222_298, zs_222_301, zs_222_304, zs_222_305, zs_222_307, zs_222_308, zs_222_311, zs_222_314, zs_222_315, zs_222_316, zs_222_317, zs_222_320, zs_222_323, zs_222_324, zs_222_326, zs_222_329, zs_222_330, zs_222_331, zs_222_332, zs_222_333, zs_222_334, zs_222_337, zs_222_340, zs_222_341, zs_222_342, zs_222_344, zs_222_345, zs_222_348, zs_222_351, zs_222_354, zs_222_355, zs_222_357, zs_222_360, zs_222_361, zs_222_363, zs_222_364, zs_222_367, zs_222_370, zs_222_371, zs_222_372, zs_222_373, zs_222_374, zs_222_375, zs_222_377, zs_222_380, zs_222_382, h1, zmf_9, zmf_10, a1, nI_1', a3, if_neg c1]
    rw [e0]
    rcases yis_k hk with g | g | g
    · subst g
      have n1 : ((nI 43 : Int32) = nI 42) = False := by decide +kernel
      have n2 : ((nI 43 : Int32) = nI 45) = False := by decide +kernel
      cases c1 : ynu a 0 with
      | true =>
        rw [if_pos ⟨rfl, rfl⟩]
        obtain ⟨h', e, w, f⟩ := lvb
        refine ⟨h', ?_, w, f⟩
        simp only [zs_222_0, zs_222_1, zs_222_4, zs_222_5, zs_222_6, zs_222_9, zs_222_10, zs_222_11, zs_222_12, zs_222_13, zs_222_14, zs_222_15, zs_222_18, zs_222_19, zs_222_20, zs_222_23, zs_222_24, zs_222_27, zs_222_30, zs_222_31, zs_222_32, zs_222_33, zs_222_34, zs_222_35, zs_222_36, zs_222_37, zs_222_38, zs_222_41, zs_222_43, zs_222_44, zs_222_46, zs_222_49, zs_222_50, zs_222_53, zs_222_54, zs_222_55, zs_222_56, zs_222_57, zs_222_59, zs_222_62, zs_222_63, zs_222_64, zs_222_65, zs_222_68, zs_222_69, zs_222_70, zs_222_71, zs_222_72, zs_222_73, zs_222_76, zs_222_79, zs_222_80, zs_222_83, zs_222_84, zs_222_85, zs_222_86, zs_222_87, zs_222_89, zs_222_92, zs_222_93, zs_222_94, zs_222_95, zs_222_96, zs_222_97, zs_222_98, zs_222_101, zs_222_104, zs_222_106, zs_222_107, zs_222_108, zs_222_111, zs_222_113, zs_222_114, zs_222_116, zs_222_119, zs_222_121, zs_222_122, zs_222_125, zs_222_126, zs_222_127, zs_222_128, zs_222_129, zs_222_131, zs_222_134, zs_222_135, zs_222_138, zs_222_140, zs_222_141, zs_222_143, zs_222_146, zs_222_147, zs_222_148, zs_222_149, zs_222_150, zs_222_153, zs_222_154, zs_222_155, zs_222_156, zs_222_157, zs_222_158, zs_222_161, zs_222_163, zs_222_164, zs_222_167, zs_222_170, zs_222_173, zs_222_174, zs_222_176, zs_222_179, zs_222_180, zs_222_181, zs_222_182, zs_222_183, zs_222_184, zs_222_187, zs_222_190, zs_222_191, zs_222_192, zs_222_194, zs_222_195, zs_222_198, zs_222_201, zs_222_204, zs_222_205, zs_222_207, zs_222_210, zs_222_211, zs_222_213, zs_222_214, zs_222_217, zs_222_220, zs_222_221, zs_222_222, zs_222_223, zs_222_224, zs_222_225, zs_222_227, zs_222_230, zs_222_233, zs_222_234, zs_222_236, zs_222_239, zs_222_240, zs_222_241, zs_222_242, zs_222_243, zs_222_244, zs_222_247, zs_222_250, zs_222_251, zs_222_252, zs_222_254, zs_222_257, zs_222_260, zs_222_261, zs_222_263, zs_222_266, zs_222_267, zs_222_268, zs_222_269, zs_222_270, zs_222_272, zs_222_275, zs_222_278, zs_222_279, zs_222_280, zs_222_281, zs_222_284, zs_222_287, zs_222_288, zs_222_290, zs_222_293, zs_222_294, zs_222_295, zs_222_296, zs_222_297, zs_222_298, zs_222_301, zs_222_304, zs_222_305, zs_222_307, zs_222_308, zs_222_311, zs_222_314, zs_222_315, zs_222_316, zs_222_317, zs_222_320, zs_222_323, zs_222_324, zs_222_326, zs_222_329, zs_222_330, zs_222_331, zs_222_332, zs_222_333, zs_222_334, zs_222_337, zs_222_340, zs_222_341, zs_222_342, zs_222_344, zs_222_345, zs_222_348, zs_222_351, zs_222_354, zs_222_355, zs_222_357, zs_222_360, zs_222_361, zs_222_363, zs_222_364, zs_222_367, zs_222_370, zs_222_371, zs_222_372, zs_222_373, zs_222_374, zs_222_375, zs_222_377, zs_222_380, zs_222_382, h1, zmf_11, yup_eq, nI_1', zrc_13v, m1, c1, yb_t, nI_1e0, e, zbk_v, zts_s, zts_n, ↓reduceIte]
      | false =>
        rw [if_neg (fun q => by cases q.2)]
        cases c2 : ynu b 0 with
        | true =>
          rw [if_pos ⟨by rw [n1]; exact not_false, rfl⟩]
          obtain ⟨h', e, w, f⟩ := lva
          refine ⟨h', ?_, w, f⟩
          simp only [zs_222_0, zs_222_1, zs_222_4, zs_222_5, zs_222_6, zs_222_9, zs_222_10, zs_222_11, zs_222_12, zs_222_13, zs_222_14, zs_222_15, zs_222_18, zs_222_19, zs_222_20, zs_222_23, zs_222_24, zs_222_27, zs_222_30, zs_222_31, zs_222_32, zs_222_33, zs_222_34, zs_222_35, zs_222_36, zs_222_37, zs_222_38, zs_222_41, zs_222_43, zs_222_44, zs_222_46, zs_222_49, zs_222_50, zs_222_53, zs_222_54, zs_222_55, zs_222_56, zs_222_57, zs_222_59, zs_222_62, zs_222_63, zs_222_64, zs_222_65, zs_222_68, zs_222_69, zs_222_70, zs_222_71, zs_222_72, zs_222_73, zs_222_76, zs_222_79, zs_222_80, zs_222_83, zs_222_84, zs_222_85, zs_222_86, zs_222_87, zs_222_89, zs_222_92, zs_222_93, zs_222_94, zs_222_95, zs_222_96, zs_222_97, zs_222_98, zs_222_101, zs_222_104, zs_222_106, zs_222_107, zs_222_108, zs_222_111, zs_222_113, zs_222_114, zs_222_116, zs_222_119, zs_222_121, zs_222_122, zs_222_125, zs_222_126, zs_222_127, zs_222_128, zs_222_129, zs_222_131, zs_222_134, zs_222_135, zs_222_138, zs_222_140, zs_222_141, zs_222_143, zs_222_146, zs_222_147, zs_222_148, zs_222_149, zs_222_150, zs_222_153, zs_222_154, zs_222_155, zs_222_156, zs_222_157, zs_222_158, zs_222_161, zs_222_163, zs_222_164, zs_222_167, zs_222_170, zs_222_173, zs_222_174, zs_222_176, zs_222_179, zs_222_180, zs_222_181, zs_222_182, zs_222_183, zs_222_184, zs_222_187, zs_222_190, zs_222_191, zs_222_192, zs_222_194, zs_222_195, zs_222_198, zs_222_201, zs_222_204, zs_222_205, zs_222_207, zs_222_210, zs_222_211, zs_222_213, zs_222_214, zs_222_217, zs_222_220, zs_222_221, zs_222_222, zs_222_223, zs_222_224, zs_222_225, zs_222_227, zs_222_230, zs_222_233, zs_222_234, zs_222_236, zs_222_239, zs_222_240, zs_222_241, zs_222_242, zs_222_243, zs_222_244, zs_222_247, zs_222_250, zs_222_251, zs_222_252, zs_222_254, zs_222_257, zs_222_260, zs_222_261, zs_222_263, zs_222_266, zs_222_267, zs_222_268, zs_222_269, zs_222_270, zs_222_272, zs_222_275, zs_222_278, zs_222_279, zs_222_280, zs_222_281, zs_222_284, zs_222_287, zs_222_288, zs_222_290, zs_222_293, zs_222_294, zs_222_295, zs_222_296, zs_222_297, zs_222_298, zs_222_301, zs_222_304, zs_222_305, zs_222_307, zs_222_308, zs_222_311, zs_222_314, zs_222_315, zs_222_316, zs_222_317, zs_222_320, zs_222_323, zs_222_324, zs_222_326, zs_222_329, zs_222_330, zs_222_331, zs_222_332, zs_222_333, zs_222_334, zs_222_337, zs_222_340, zs_222_341, zs_222_342, zs_222_344, zs_222_345, zs_222_348, zs_222_351, zs_222_354, zs_222_355, zs_222_357, zs_222_360, zs_222_361, zs_222_363, zs_222_364, zs_222_367, zs_222_370, zs_222_371, zs_222_372, zs_222_373, zs_222_374, zs_222_375, zs_222_377, zs_222_380, zs_222_382, h1, nI_1', zrc_13v, m1, m2, c1, c2, n1, yb_t, yb_f, nI_1e0, e, zbk_v, zts_s, zts_n, ↓reduceIte]
        | false =>
          rw [if_neg (fun q => by cases q.2), if_neg (fun q => by rw [n2] at q; exact q.1), if_neg (fun q => by rw [n2] at q; exact q.1), if_neg (fun q => by rw [n1] at q; exact q.1), if_neg (fun q => by rw [n1] at q; exact q.1), if_neg (fun q => by rw [n1] at q; exact q.1)]
          refine ⟨h, ?_, hm, zfm_rfl⟩
          simp only [zs_222_0, zs_222_1, zs_222_4, zs_222_5, zs_222_6, zs_222_9, zs_222_10, zs_222_11, zs_222_12, zs_222_13, zs_222_14, zs_222_15, zs_222_18, zs_222_19, zs_222_20, zs_222_23, zs_222_24, zs_222_27, zs_222_30, zs_222_31, zs_222_32, zs_222_33, zs_222_34, zs_222_35, zs_222_36, zs_222_37, zs_222_38, zs_222_41, zs_222_43, zs_222_44, zs_222_46, zs_222_49, zs_222_50, zs_222_53, zs_222_54, zs_222_55, zs_222_56, zs_222_57, zs_222_59, zs_222_62, zs_222_63, zs_222_64, zs_222_65, zs_222_68, zs_222_69, zs_222_70, zs_222_71, zs_222_72, zs_222_73, zs_222_76, zs_222_79, zs_222_80, zs_222_83, zs_222_84, zs_222_85, zs_222_86, zs_222_87, zs_222_89, zs_222_92, zs_222_93, zs_222_94, zs_222_95, zs_222_96, zs_222_97, zs_222_98, zs_222_101, zs_222_104, zs_222_106, zs_222_107, zs_222_108, zs_222_111, zs_222_113, zs_222_114, zs_222_116, zs_222_119, zs_222_121, zs_222_122, zs_222_125, zs_222_126, zs_222_127, zs_222_128, zs_222_129, zs_222_131, zs_222_134, zs_222_135, zs_222_138, zs_222_140, zs_222_141, zs_222_143, zs_222_146, zs_222_147, zs_222_148, zs_222_149, zs_222_150, zs_222_153, zs_222_154, zs_222_155, zs_222_156, zs_222_157, zs_222_158, zs_222_161, zs_222_163, zs_222_164, zs_222_167, zs_222_170, zs_222_173, zs_222_174, zs_222_176, zs_222_179, zs_222_180, zs_222_181, zs_222_182, zs_222_183, zs_222_184, zs_222_187, zs_222_190, zs_222_191, zs_222_192, zs_222_194, zs_222_195, zs_222_198, zs_222_201, zs_222_204, zs_222_205, zs_222_207, zs_222_210, zs_222_211, zs_222_213, zs_222_214, zs_222_217, zs_222_220, zs_222_221, zs_222_222, zs_222_223, zs_222_224, zs_222_225, zs_222_227, zs_222_230, zs_222_233, zs_222_234, zs_222_236, zs_222_239, zs_222_240, zs_222_241, zs_222_242, zs_222_243, zs_222_244, zs_222_247, zs_222_250, zs_222_251, zs_222_252, zs_222_254, zs_222_257, zs_222_260, zs_222_261, zs_222_263, zs_222_266, zs_222_267, zs_222_268, zs_222_269, zs_222_270, zs_222_272, zs_222_275, zs_222_278, zs_222_279, zs_222_280, zs_222_281, zs_222_284, zs_222_287, zs_222_288, zs_222_290, zs_222_293, zs_222_294, zs_222_295, zs_222_296, zs_222_297, zs_222_298, zs_222_301, zs_222_304, zs_222_305, zs_222_307, zs_222_308, zs_222_311, zs_222_314, zs_222_315, zs_222_316, zs_222_317, zs_222_320, zs_222_323, zs_222_324, zs_222_326, zs_222_329, zs_222_330, zs_222_331, zs_222_332, zs_222_333, zs_222_334, zs_222_337, zs_222_340, zs_222_341, zs_222_342, zs_222_344, zs_222_345, zs_222_348, zs_222_351, zs_222_354, zs_222_355, zs_222_357, zs_222_360, zs_222_361, zs_222_363, zs_222_364, zs_222_367, zs_222_370, zs_222_371, zs_222_372, zs_222_373, zs_222_374, zs_222_375, zs_222_377, zs_222_380, zs_222_382, h1, nI_1', zrc_13v, m1, m2, c1, c2, n1, n2, yb_f, zbk_v, zts_s, zts_n, ↓reduceIte]
    · subst g
      have n1 : ((nI 45 : Int32) = nI 43) = False := by decide +kernel
      have n2 : ((nI 45 : Int32) = nI 42) = False := by decide +kernel
      rw [if_neg (fun q => by rw [n1] at q; exact q.1)]
      cases c2 : ynu b 0 with
      | true =>
        rw [if_pos ⟨by rw [n2]; exact not_false, rfl⟩]
        obtain ⟨h', e, w, f⟩ := lva
        refine ⟨h', ?_, w, f⟩
        simp only [zs_222_0, zs_222_1, zs_222_4, zs_222_5, zs_222_6, zs_222_9, zs_222_10, zs_222_11, zs_222_12, zs_222_13, zs_222_14, zs_222_15, zs_222_18, zs_222_19, zs_222_20, zs_222_23, zs_222_24, zs_222_27, zs_222_30, zs_222_31, zs_222_32, zs_222_33, zs_222_34, zs_222_35, zs_222_36, zs_222_37, zs_222_38, zs_222_41, zs_222_43, zs_222_44, zs_222_46, zs_222_49, zs_222_50, zs_222_53, zs_222_54, zs_222_55, zs_222_56, zs_222_57, zs_222_59, zs_222_62, zs_222_63, zs_222_64, zs_222_65, zs_222_68, zs_222_69, zs_222_70, zs_222_71, zs_222_72, zs_222_73, zs_222_76, zs_222_79, zs_222_80, zs_222_83, zs_222_84, zs_222_85, zs_222_86, zs_222_87, zs_222_89, zs_222_92, zs_222_93, zs_222_94, zs_222_95, zs_222_96, zs_222_97, zs_222_98, zs_222_101, zs_222_104, zs_222_106, zs_222_107, zs_222_108, zs_222_111, zs_222_113, zs_222_114, zs_222_116, zs_222_119, zs_222_121, zs_222_122, zs_222_125, zs_222_126, zs_222_127, zs_222_128, zs_222_129, zs_222_131, zs_222_134, zs_222_135, zs_222_138, zs_222_140, zs_222_141, zs_222_143, zs_222_146, zs_222_147, zs_222_148, zs_222_149, zs_222_150, zs_222_153, zs_222_154, zs_222_155, zs_222_156, zs_222_157, zs_222_158, zs_222_161, zs_222_163, zs_222_164, zs_222_167, zs_222_170, zs_222_173, zs_222_174, zs_222_176, zs_222_179, zs_222_180, zs_222_181, zs_222_182, zs_222_183, zs_222_184, zs_222_187, zs_222_190, zs_222_191, zs_222_192, zs_222_194, zs_222_195, zs_222_198, zs_222_201, zs_222_204, zs_222_205, zs_222_207, zs_222_210, zs_222_211, zs_222_213, zs_222_214, zs_222_217, zs_222_220, zs_222_221, zs_222_222, zs_222_223, zs_222_224, zs_222_225, zs_222_227, zs_222_230, zs_222_233, zs_222_234, zs_222_236, zs_222_239, zs_222_240, zs_222_241, zs_222_242, zs_222_243, zs_222_244, zs_222_247, zs_222_250, zs_222_251, zs_222_252, zs_222_254, zs_222_257, zs_222_260, zs_222_261, zs_222_263, zs_222_266, zs_222_267, zs_222_268, zs_222_269, zs_222_270, zs_222_272, zs_222_275, zs_222_278, zs_222_279, zs_222_280, zs_222_281, zs_222_284, zs_222_287, zs_222_288, zs_222_290, zs_222_293, zs_222_294, zs_222_295, zs_222_296, zs_222_297, zs_222_298, zs_222_301, zs_222_304, zs_222_305, zs_222_307, zs_222_308, zs_222_311, zs_222_314, zs_222_315, zs_222_316, zs_222_317, zs_222_320, zs_222_323, zs_222_324, zs_222_326, zs_222_329, zs_222_330, zs_222_331, zs_222_332, zs_222_333, zs_222_334, zs_222_337, zs_222_340, zs_222_341, zs_222_342, zs_222_344, zs_222_345, zs_222_348, zs_222_351, zs_222_354, zs_222_355, zs_222_357, zs_222_360, zs_222_361, zs_222_363, zs_222_364, zs_222_367, zs_222_370, zs_222_371, zs_222_372, zs_222_373, zs_222_374, zs_222_375, zs_222_377, zs_222_380, zs_222_382, h1, nI_1', zrc_13v, m2, c2, n1, n2, yb_t, nI_1e0, e, zbk_v, zts_s, zts_n, ↓reduceIte]
      | false =>
        rw [if_neg (fun q => by cases q.2)]
        cases c1 : ynu a 0 with
        | true =>
          rw [if_pos ⟨rfl, rfl⟩]
          obtain ⟨h', e, w, f⟩ := e_223 (sv := sv) (d := d + 1) hm ha hb hq (ynr_o hk)
          refine ⟨h', ?_, w, f⟩
          simp only [zs_222_0, zs_222_1, zs_222_4, zs_222_5, zs_222_6, zs_222_9, zs_222_10, zs_222_11, zs_222_12, zs_222_13, zs_222_14, zs_222_15, zs_222_18, zs_222_19, zs_222_20, zs_222_23, zs_222_24, zs_222_27, zs_222_30, zs_222_31, zs_222_32, zs_222_33, zs_222_34, zs_222_35, zs_222_36, zs_222_37, zs_222_38, zs_222_41, zs_222_43, zs_222_44, zs_222_46, zs_222_49, zs_222_50, zs_222_53, zs_222_54, zs_222_55, zs_222_56, zs_222_57, zs_222_59, zs_222_62, zs_222_63, zs_222_64, zs_222_65, zs_222_68, zs_222_69, zs_222_70, zs_222_71, zs_222_72, zs_222_73, zs_222_76, zs_222_79, zs_222_80, zs_222_83, zs_222_84, zs_222_85, zs_222_86, zs_222_87, zs_222_89, zs_222_92, zs_222_93, zs_222_94, zs_222_95, zs_222_96, zs_222_97, zs_222_98, zs_222_101, zs_222_104, zs_222_106, zs_222_107, zs_222_108, zs_222_111, zs_222_113, zs_222_114, zs_222_116, zs_222_119, zs_222_121, zs_222_122, zs_222_125, zs_222_126, zs_222_127, zs_222_128, zs_222_129, zs_222_131, zs_222_134, zs_222_135, zs_222_138, zs_222_140, zs_222_141, zs_222_143, zs_222_146, zs_222_147, zs_222_148, zs_222_149, zs_222_150, zs_222_153, zs_222_154, zs_222_155, zs_222_156, zs_222_157, zs_222_158, zs_222_161, zs_222_163, zs_222_164, zs_222_167, zs_222_170, zs_222_173, zs_222_174, zs_222_176, zs_222_179, zs_222_180, zs_222_181, zs_222_182, zs_222_183, zs_222_184, zs_222_187, zs_222_190, zs_222_191, zs_222_192, zs_222_194, zs_222_195, zs_222_198, zs_222_201, zs_222_204, zs_222_205, zs_222_207, zs_222_210, zs_222_211, zs_222_213, zs_222_214, zs_222_217, zs_222_220, zs_222_221, zs_222_222, zs_222_223, zs_222_224, zs_222_225, zs_222_227, zs_222_230, zs_222_233, zs_222_234, zs_222_236, zs_222_239, zs_222_240, zs_222_241, zs_222_242, zs_222_243, zs_222_244, zs_222_247, zs_222_250, zs_222_251, zs_222_252, zs_222_254, zs_222_257, zs_222_260, zs_222_261, zs_222_263, zs_222_266, zs_222_267, zs_222_268, zs_222_269, zs_222_270, zs_222_272, zs_222_275, zs_222_278, zs_222_279, zs_222_280, zs_222_281, zs_222_284, zs_222_287, zs_222_288, zs_222_290, zs_222_293, zs_222_294, zs_222_295, zs_222_296, zs_222_297, zs_222_298, zs_222_301, zs_222_304, zs_222_305, zs_222_307, zs_222_308, zs_222_311, zs_222_314, zs_222_315, zs_222_316, zs_222_317, zs_222_320, zs_222_323, zs_222_324, zs_222_326, zs_222_329, zs_222_330, zs_222_331, zs_222_332, zs_222_333, zs_222_334, zs_222_337, zs_222_340, zs_222_341, zs_222_342, zs_222_344, zs_222_345, zs_222_348, zs_222_351, zs_222_354, zs_222_355, zs_222_357, zs_222_360, zs_222_361, zs_222_363, zs_222_364, zs_222_367, zs_222_370, zs_222_371, zs_222_372, zs_222_373, zs_222_374, zs_222_375, zs_222_377, zs_222_380, zs_222_382, h1, nI_1', zrc_13v, m1, m2, c1, c2, n1, n2, yb_t, yb_f, nI_1e0, e, zbk_v, zts_s, zts_n, ↓reduceIte]
        | false =>
          rw [if_neg (fun q => by cases q.2)]
          have em : zcall zP sv (d + 3) 221 [.ref m, .int (nI (qs.length + 1)), .int (nI (qs.length + 1 + ysz a))] h = some (.inl (some (.int (yb (yeq a b)))), h) := by
            have hm' : zMd h m F ((qs ++ [(nI 45, v0)]) ++ ypr a ++ ypr b) := by
              rw [List.append_assoc, List.append_assoc]; exact hm
            have := e_221 (sv := sv) (d := d + 2) hm'
            rw [ypr_eq ha hb, ypr_len, show (qs ++ [(nI 45, v0)]).length = qs.length + 1 from List.length_append] at this
            exact this
          cases c3 : yeq a b with
          | true =>
            rw [if_pos ⟨rfl, rfl⟩]
            rw [c3] at em
            obtain ⟨h', e, w, f⟩ := bec 0
            refine ⟨h', ?_, w, f⟩
            simp only [zs_222_0, zs_222_1, zs_222_4, zs_222_5, zs_222_6, zs_222_9, zs_222_10, zs_222_11, zs_222_12, zs_222_13, zs_222_14, zs_222_15, zs_222_18, zs_222_19, zs_222_20, zs_222_23, zs_222_24, zs_222_27, zs_222_30, zs_222_31, zs_222_32, zs_222_33, zs_222_34, zs_222_35, zs_222_36, zs_222_37, zs_222_38, zs_222_41, zs_222_43, zs_222_44, zs_222_46, zs_222_49, zs_222_50, zs_222_53, zs_222_54, zs_222_55, zs_222_56, zs_222_57, zs_222_59, zs_222_62, zs_222_63, zs_222_64, zs_222_65, zs_222_68, zs_222_69, zs_222_70, zs_222_71, zs_222_72, zs_222_73, zs_222_76, zs_222_79, zs_222_80, zs_222_83, zs_222_84, zs_222_85, zs_222_86, zs_222_87, zs_222_89, zs_222_92, zs_222_93, zs_222_94, zs_222_95, zs_222_96, zs_222_97, zs_222_98, zs_222_101, zs_222_104, zs_222_106, zs_222_107, zs_222_108, zs_222_111, zs_222_113, zs_222_114, zs_222_116, zs_222_119, zs_222_121, zs_222_122, zs_222_125, zs_222_126, zs_222_127, zs_222_128, zs_222_129, zs_222_131, zs_222_134, zs_222_135, zs_222_138, zs_222_140, zs_222_141, zs_222_143, zs_222_146, zs_222_147, zs_222_148, zs_222_149, zs_222_150, zs_222_153, zs_222_154, zs_222_155, zs_222_156, zs_222_157, zs_222_158, zs_222_161, zs_222_163, zs_222_164, zs_222_167, zs_222_170, zs_222_173, zs_222_174, zs_222_176, zs_222_179, zs_222_180, zs_222_181, zs_222_182, zs_222_183, zs_222_184, zs_222_187, zs_222_190, zs_222_191, zs_222_192, zs_222_194, zs_222_195, zs_222_198, zs_222_201, zs_222_204, zs_222_205, zs_222_207, zs_222_210, zs_222_211, zs_222_213, zs_222_214, zs_222_217, zs_222_220, zs_222_221, zs_222_222, zs_222_223, zs_222_224, zs_222_225, zs_222_227, zs_222_230, zs_222_233, zs_222_234, zs_222_236, zs_222_239, zs_222_240, zs_222_241, zs_222_242, zs_222_243, zs_222_244, zs_222_247, zs_222_250, zs_222_251, zs_222_252, zs_222_254, zs_222_257, zs_222_260, zs_222_261, zs_222_263, zs_222_266, zs_222_267, zs_222_268, zs_222_269, zs_222_270, zs_222_272, zs_222_275, zs_222_278, zs_222_279, zs_222_280, zs_222_281, zs_222_284, zs_222_287, zs_222_288, zs_222_290, zs_222_293, zs_222_294, zs_222_295, zs_222_296, zs_222_297, zs_222_298, zs_222_301, zs_222_304, zs_222_305, zs_222_307, zs_222_308, zs_222_311, zs_222_314, zs_222_315, zs_222_316, zs_222_317, zs_222_320, zs_222_323, zs_222_324, zs_222_326, zs_222_329, zs_222_330, zs_222_331, zs_222_332, zs_222_333, zs_222_334, zs_222_337, zs_222_340, zs_222_341, zs_222_342, zs_222_344, zs_222_345, zs_222_348, zs_222_351, zs_222_354, zs_222_355, zs_222_357, zs_222_360, zs_222_361, zs_222_363, zs_222_364, zs_222_367, zs_222_370, zs_222_371, zs_222_372, zs_222_373, zs_222_374, zs_222_375, zs_222_377, zs_222_380, zs_222_382, h1, nI_1', zrc_13v, m1, m2, c1, c2, n1, n2, em, yb_t, yb_f, nI_1e0, e, zbk_v, zts_s, zts_n, ↓reduceIte]
          | false =>
            rw [if_neg (fun q => by cases q.2), if_neg (fun q => by rw [n2] at q; exact q.1), if_neg (fun q => by rw [n2] at q; exact q.1), if_neg (fun q => by rw [n2] at q; exact q.1)]
            rw [c3] at em
            refine ⟨h, ?_, hm, zfm_rfl⟩
            simp only [zs_222_0, zs_222_1, zs_222_4, zs_222_5, zs_222_6, zs_222_9, zs_222_10, zs_222_11, zs_222_12, zs_222_13, zs_222_14, zs_222_15, zs_222_18, zs_222_19, zs_222_20, zs_222_23, zs_222_24, zs_222_27, zs_222_30, zs_222_31, zs_222_32, zs_222_33, zs_222_34, zs_222_35, zs_222_36, zs_222_37, zs_222_38, zs_222_41, zs_222_43, zs_222_44, zs_222_46, zs_222_49, zs_222_50, zs_222_53, zs_222_54, zs_222_55, zs_222_56, zs_222_57, zs_222_59, zs_222_62, zs_222_63, zs_222_64, zs_222_65, zs_222_68, zs_222_69, zs_222_70, zs_222_71, zs_222_72, zs_222_73, zs_222_76, zs_222_79, zs_222_80, zs_222_83, zs_222_84, zs_222_85, zs_222_86, zs_222_87, zs_222_89, zs_222_92, zs_222_93, zs_222_94, zs_222_95, zs_222_96, zs_222_97, zs_222_98, zs_222_101, zs_222_104, zs_222_106, zs_222_107, zs_222_108, zs_222_111, zs_222_113, zs_222_114, zs_222_116, zs_222_119, zs_222_121, zs_222_122, zs_222_125, zs_222_126, zs_222_127, zs_222_128, zs_222_129, zs_222_131, zs_222_134, zs_222_135, zs_222_138, zs_222_140, zs_222_141, zs_222_143, zs_222_146, zs_222_147, zs_222_148, zs_222_149, zs_222_150, zs_222_153, zs_222_154, zs_222_155, zs_222_156, zs_222_157, zs_222_158, zs_222_161, zs_222_163, zs_222_164, zs_222_167, zs_222_170, zs_222_173, zs_222_174, zs_222_176, zs_222_179, zs_222_180, zs_222_181, zs_222_182, zs_222_183, zs_222_184, zs_222_187, zs_222_190, zs_222_191, zs_222_192, zs_222_194, zs_222_195, zs_222_198, zs_222_201, zs_222_204, zs_222_205, zs_222_207, zs_222_210, zs_222_211, zs_222_213, zs_222_214, zs_222_217, zs_222_220, zs_222_221, zs_222_222, zs_222_223, zs_222_224, zs_222_225, zs_222_227, zs_222_230, zs_222_233, zs_222_234, zs_222_236, zs_222_239, zs_222_240, zs_222_241, zs_222_242, zs_222_243, zs_222_244, zs_222_247, zs_222_250, zs_222_251, zs_222_252, zs_222_254, zs_222_257, zs_222_260, zs_222_261, zs_222_263, zs_222_266, zs_222_267, zs_222_268, zs_222_269, zs_222_270, zs_222_272, zs_222_275, zs_222_278, zs_222_279, zs_222_280, zs_222_281, zs_222_284, zs_222_287, zs_222_288, zs_222_290, zs_222_293, zs_222_294, zs_222_295, zs_222_296, zs_222_297, zs_222_298, zs_222_301, zs_222_304, zs_222_305, zs_222_307, zs_222_308, zs_222_311, zs_222_314, zs_222_315, zs_222_316, zs_222_317, zs_222_320, zs_222_323, zs_222_324, zs_222_326, zs_222_329, zs_222_330, zs_222_331, zs_222_332, zs_222_333, zs_222_334, zs_222_337, zs_222_340, zs_222_341, zs_222_342, zs_222_344, zs_222_345, zs_222_348, zs_222_351, zs_222_354, zs_222_355, zs_222_357, zs_222_360, zs_222_361, zs_222_363, zs_222_364, zs_222_367, zs_222_370, zs_222_371, zs_222_372, zs_222_373, zs_222_374, zs_222_375, zs_222_377, zs_222_380, zs_222_382, h1, nI_1', zrc_13v, m1, m2, c1, c2, n1, n2, em, yb_f, zbk_v, zts_s, zts_n, ↓reduceIte]
    · subst g
      have n1 : ((nI 42 : Int32) = nI 43) = False := by decide +kernel
      have n2 : ((nI 42 : Int32) = nI 45) = False := by decide +kernel
      rw [if_neg (fun q => by rw [n1] at q; exact q.1), if_neg (fun q => q.1 rfl), if_neg (fun q => by rw [n2] at q; exact q.1), if_neg (fun q => by rw [n2] at q; exact q.1)]
      cases c1 : ynu a 0 with
      | true =>
        rw [if_pos ⟨rfl, Or.inl rfl⟩]
        obtain ⟨h', e, w, f⟩ := bec 0
        refine ⟨h', ?_, w, f⟩
        simp only [zs_222_0, zs_222_1, zs_222_4, zs_222_5, zs_222_6, zs_222_9, zs_222_10, zs_222_11, zs_222_12, zs_222_13, zs_222_14, zs_222_15, zs_222_18, zs_222_19, zs_222_20, zs_222_23, zs_222_24, zs_222_27, zs_222_30, zs_222_31, zs_222_32, zs_222_33, zs_222_34, zs_222_35, zs_222_36, zs_222_37, zs_222_38, zs_222_41, zs_222_43, zs_222_44, zs_222_46, zs_222_49, zs_222_50, zs_222_53, zs_222_54, zs_222_55, zs_222_56, zs_222_57, zs_222_59, zs_222_62, zs_222_63, zs_222_64, zs_222_65, zs_222_68, zs_222_69, zs_222_70, zs_222_71, zs_222_72, zs_222_73, zs_222_76, zs_222_79, zs_222_80, zs_222_83, zs_222_84, zs_222_85, zs_222_86, zs_222_87, zs_222_89, zs_222_92, zs_222_93, zs_222_94, zs_222_95, zs_222_96, zs_222_97, zs_222_98, zs_222_101, zs_222_104, zs_222_106, zs_222_107, zs_222_108, zs_222_111, zs_222_113, zs_222_114, zs_222_116, zs_222_119, zs_222_121, zs_222_122, zs_222_125, zs_222_126, zs_222_127, zs_222_128, zs_222_129, zs_222_131, zs_222_134, zs_222_135, zs_222_138, zs_222_140, zs_222_141, zs_222_143, zs_222_146, zs_222_147, zs_222_148, zs_222_149, zs_222_150, zs_222_153, zs_222_154, zs_222_155, zs_222_156, zs_222_157, zs_222_158, zs_222_161, zs_222_163, zs_222_164, zs_222_167, zs_222_170, zs_222_173, zs_222_174, zs_222_176, zs_222_179, zs_222_180, zs_222_181, zs_222_182, zs_222_183, zs_222_184, zs_222_187, zs_222_190, zs_222_191, zs_222_192, zs_222_194, zs_222_195, zs_222_198, zs_222_201, zs_222_204, zs_222_205, zs_222_207, zs_222_210, zs_222_211, zs_222_213, zs_222_214, zs_222_217, zs_222_220, zs_222_221, zs_222_222, zs_222_223, zs_222_224, zs_222_225, zs_222_227, zs_222_230, zs_222_233, zs_222_234, zs_222_236, zs_222_239, zs_222_240, zs_222_241, zs_222_242, zs_222_243, zs_222_244, zs_222_247, zs_222_250, zs_222_251, zs_222_252, zs_222_254, zs_222_257, zs_222_260, zs_222_261, zs_222_263, zs_222_266, zs_222_267, zs_222_268, zs_222_269, zs_222_270, zs_222_272, zs_222_275, zs_222_278, zs_222_279, zs_222_280, zs_222_281, zs_222_284, zs_222_287, zs_222_288, zs_222_290, zs_222_293, zs_222_294, zs_222_295, zs_222_296, zs_222_297, zs_222_298, zs_222_301, zs_222_304, zs_222_305, zs_222_307, zs_222_308, zs_222_311, zs_222_314, zs_222_315, zs_222_316, zs_222_317, zs_222_320, zs_222_323, zs_222_324, zs_222_326, zs_222_329, zs_222_330, zs_222_331, zs_222_332, zs_222_333, zs_222_334, zs_222_337, zs_222_340, zs_222_341, zs_222_342, zs_222_344, zs_222_345, zs_222_348, zs_222_351, zs_222_354, zs_222_355, zs_222_357, zs_222_360, zs_222_361, zs_222_363, zs_222_364, zs_222_367, zs_222_370, zs_222_371, zs_222_372, zs_222_373, zs_222_374, zs_222_375, zs_222_377, zs_222_380, zs_222_382, h1, nI_1', zrc_13v, m1, c1, n1, n2, yb_t, nI_1e0, e, zbk_v, zts_s, zts_n, ↓reduceIte]
      | false =>
        cases c2 : ynu b 0 with
        | true =>
          rw [if_pos ⟨rfl, Or.inr rfl⟩]
          obtain ⟨h', e, w, f⟩ := bec 0
          refine ⟨h', ?_, w, f⟩
          simp only [zs_222_0, zs_222_1, zs_222_4, zs_222_5, zs_222_6, zs_222_9, zs_222_10, zs_222_11, zs_222_12, zs_222_13, zs_222_14, zs_222_15, zs_222_18, zs_222_19, zs_222_20, zs_222_23, zs_222_24, zs_222_27, zs_222_30, zs_222_31, zs_222_32, zs_222_33, zs_222_34, zs_222_35, zs_222_36, zs_222_37, zs_222_38, zs_222_41, zs_222_43, zs_222_44, zs_222_46, zs_222_49, zs_222_50, zs_222_53, zs_222_54, zs_222_55, zs_222_56, zs_222_57, zs_222_59, zs_222_62, zs_222_63, zs_222_64, zs_222_65, zs_222_68, zs_222_69, zs_222_70, zs_222_71, zs_222_72, zs_222_73, zs_222_76, zs_222_79, zs_222_80, zs_222_83, zs_222_84, zs_222_85, zs_222_86, zs_222_87, zs_222_89, zs_222_92, zs_222_93, zs_222_94, zs_222_95, zs_222_96, zs_222_97, zs_222_98, zs_222_101, zs_222_104, zs_222_106, zs_222_107, zs_222_108, zs_222_111, zs_222_113, zs_222_114, zs_222_116, zs_222_119, zs_222_121, zs_222_122, zs_222_125, zs_222_126, zs_222_127, zs_222_128, zs_222_129, zs_222_131, zs_222_134, zs_222_135, zs_222_138, zs_222_140, zs_222_141, zs_222_143, zs_222_146, zs_222_147, zs_222_148, zs_222_149, zs_222_150, zs_222_153, zs_222_154, zs_222_155, zs_222_156, zs_222_157, zs_222_158, zs_222_161, zs_222_163, zs_222_164, zs_222_167, zs_222_170, zs_222_173, zs_222_174, zs_222_176, zs_222_179, zs_222_180, zs_222_181, zs_222_182, zs_222_183, zs_222_184, zs_222_187, zs_222_190, zs_222_191, zs_222_192, zs_222_194, zs_222_195, zs_222_198, zs_222_201, zs_222_204, zs_222_205, zs_222_207, zs_222_210, zs_222_211, zs_222_213, zs_222_214, zs_222_217, zs_222_220, zs_222_221, zs_222_222, zs_222_223, zs_222_224, zs_222_225, zs_222_227, zs_222_230, zs_222_233, zs_222_234, zs_222_236, zs_222_239, zs_222_240, zs_222_241, zs_222_242, zs_222_243, zs_222_244, zs_222_247, zs_222_250, zs_222_251, zs_222_252, zs_222_254, zs_222_257, zs_222_260, zs_222_261, zs_222_263, zs_222_266, zs_222_267, zs_222_268, zs_222_269, zs_222_270, zs_222_272, zs_222_275, zs_222_278, zs_222_279, zs_222_280, zs_222_281, zs_222_284, zs_222_287, zs_222_288, zs_222_290, zs_222_293, zs_222_294, zs_222_295, zs_222_296, zs_222_297, zs_222_298, zs_222_301, zs_222_304, zs_222_305, zs_222_307, zs_222_308, zs_222_311, zs_222_314, zs_222_315, zs_222_316, zs_222_317, zs_222_320, zs_222_323, zs_222_324, zs_222_326, zs_222_329, zs_222_330, zs_222_331, zs_222_332, zs_222_333, zs_222_334, zs_222_337, zs_222_340, zs_222_341, zs_222_342, zs_222_344, zs_222_345, zs_222_348, zs_222_351, zs_222_354, zs_222_355, zs_222_357, zs_222_360, zs_222_361, zs_222_363, zs_222_364, zs_222_367, zs_222_370, zs_222_371, zs_222_372, zs_222_373, zs_222_374, zs_222_375, zs_222_377, zs_222_380, zs_222_382, h1, nI_1', zrc_13v, m1, m2, c1, c2, n1, n2, yb_t, yb_f, nI_1e0, e, zbk_v, zts_s, zts_n, ↓reduceIte]
        | false =>
          rw [if_neg (fun q => by rcases q.2 with q | q <;> cases q)]
          cases c3 : ynu a (nI 1) with
          | true =>
            rw [if_pos ⟨rfl, rfl⟩]
            obtain ⟨h', e, w, f⟩ := lvb
            refine ⟨h', ?_, w, f⟩
            simp only [zs_222_0, zs_222_1, zs_222_4, zs_222_5, zs_222_6, zs_222_9, zs_222_10, zs_222_11, zs_222_12, zs_222_13, zs_222_14, zs_222_15, zs_222_18, zs_222_19, zs_222_20, zs_222_23, zs_222_24, zs_222_27, zs_222_30, zs_222_31, zs_222_32, zs_222_33, zs_222_34, zs_222_35, zs_222_36, zs_222_37, zs_222_38, zs_222_41, zs_222_43, zs_222_44, zs_222_46, zs_222_49, zs_222_50, zs_222_53, zs_222_54, zs_222_55, zs_222_56, zs_222_57, zs_222_59, zs_222_62, zs_222_63, zs_222_64, zs_222_65, zs_222_68, zs_222_69, zs_222_70, zs_222_71, zs_222_72, zs_222_73, zs_222_76, zs_222_79, zs_222_80, zs_222_83, zs_222_84, zs_222_85, zs_222_86, zs_222_87, zs_222_89, zs_222_92, zs_222_93, zs_222_94, zs_222_95, zs_222_96, zs_222_97, zs_222_98, zs_222_101, zs_222_104, zs_222_106, zs_222_107, zs_222_108, zs_222_111, zs_222_113, zs_222_114, zs_222_116, zs_222_119, zs_222_121, zs_222_122, zs_222_125, zs_222_126, zs_222_127, zs_222_128, zs_222_129, zs_222_131, zs_222_134, zs_222_135, zs_222_138, zs_222_140, zs_222_141, zs_222_143, zs_222_146, zs_222_147, zs_222_148, zs_222_149, zs_222_150, zs_222_153, zs_222_154, zs_222_155, zs_222_156, zs_222_157, zs_222_158, zs_222_161, zs_222_163, zs_222_164, zs_222_167, zs_222_170, zs_222_173, zs_222_174, zs_222_176, zs_222_179, zs_222_180, zs_222_181, zs_222_182, zs_222_183, zs_222_184, zs_222_187, zs_222_190, zs_222_191, zs_222_192, zs_222_194, zs_222_195, zs_222_198, zs_222_201, zs_222_204, zs_222_205, zs_222_207, zs_222_210, zs_222_211, zs_222_213, zs_222_214, zs_222_217, zs_222_220, zs_222_221, zs_222_222, zs_222_223, zs_222_224, zs_222_225, zs_222_227, zs_222_230, zs_222_233, zs_222_234, zs_222_236, zs_222_239, zs_222_240, zs_222_241, zs_222_242, zs_222_243, zs_222_244, zs_222_247, zs_222_250, zs_222_251, zs_222_252, zs_222_254, zs_222_257, zs_222_260, zs_222_261, zs_222_263, zs_222_266, zs_222_267, zs_222_268, zs_222_269, zs_222_270, zs_222_272, zs_222_275, zs_222_278, zs_222_279, zs_222_280, zs_222_281, zs_222_284, zs_222_287, zs_222_288, zs_222_290, zs_222_293, zs_222_294, zs_222_295, zs_222_296, zs_222_297, zs_222_298, zs_222_301, zs_222_304, zs_222_305, zs_222_307, zs_222_308, zs_222_311, zs_222_314, zs_222_315, zs_222_316, zs_222_317, zs_222_320, zs_222_323, zs_222_324, zs_222_326, zs_222_329, zs_222_330, zs_222_331, zs_222_332, zs_222_333, zs_222_334, zs_222_337, zs_222_340, zs_222_341, zs_222_342, zs_222_344, zs_222_345, zs_222_348, zs_222_351, zs_222_354, zs_222_355, zs_222_357, zs_222_360, zs_222_361, zs_222_363, zs_222_364, zs_222_367, zs_222_370, zs_222_371, zs_222_372, zs_222_373, zs_222_374, zs_222_375, zs_222_377, zs_222_380, zs_222_382, h1, zmf_11, yup_eq, nI_1', zrc_13v, m1, m2, c1, c2, c3, n1, n2, yb_t, yb_f, nI_1e0, e, zbk_v, zts_s, zts_n, ↓reduceIte]
          | false =>
            rw [if_neg (fun q => by cases q.2)]
            cases c4 : ynu b (nI 1) with
            | true =>
              rw [if_pos ⟨rfl, rfl⟩]
              obtain ⟨h', e, w, f⟩ := lva
              refine ⟨h', ?_, w, f⟩
              simp only [zs_222_0, zs_222_1, zs_222_4, zs_222_5, zs_222_6, zs_222_9, zs_222_10, zs_222_11, zs_222_12, zs_222_13, zs_222_14, zs_222_15, zs_222_18, zs_222_19, zs_222_20, zs_222_23, zs_222_24, zs_222_27, zs_222_30, zs_222_31, zs_222_32, zs_222_33, zs_222_34, zs_222_35, zs_222_36, zs_222_37, zs_222_38, zs_222_41, zs_222_43, zs_222_44, zs_222_46, zs_222_49, zs_222_50, zs_222_53, zs_222_54, zs_222_55, zs_222_56, zs_222_57, zs_222_59, zs_222_62, zs_222_63, zs_222_64, zs_222_65, zs_222_68, zs_222_69, zs_222_70, zs_222_71, zs_222_72, zs_222_73, zs_222_76, zs_222_79, zs_222_80, zs_222_83, zs_222_84, zs_222_85, zs_222_86, zs_222_87, zs_222_89, zs_222_92, zs_222_93, zs_222_94, zs_222_95, zs_222_96, zs_222_97, zs_222_98, zs_222_101, zs_222_104, zs_222_106, zs_222_107, zs_222_108, zs_222_111, zs_222_113, zs_222_114, zs_222_116, zs_222_119, zs_222_121, zs_222_122, zs_222_125, zs_222_126, zs_222_127, zs_222_128, zs_222_129, zs_222_131, zs_222_134, zs_222_135, zs_222_138, zs_222_140, zs_222_141, zs_222_143, zs_222_146, zs_222_147, zs_222_148, zs_222_149, zs_222_150, zs_222_153, zs_222_154, zs_222_155, zs_222_156, zs_222_157, zs_222_158, zs_222_161, zs_222_163, zs_222_164, zs_222_167, zs_222_170, zs_222_173, zs_222_174, zs_222_176, zs_222_179, zs_222_180, zs_222_181, zs_222_182, zs_222_183, zs_222_184, zs_222_187, zs_222_190, zs_222_191, zs_222_192, zs_222_194, zs_222_195, zs_222_198, zs_222_201, zs_222_204, zs_222_205, zs_222_207, zs_222_210, zs_222_211, zs_222_213, zs_222_214, zs_222_217, zs_222_220, zs_222_221, zs_222_222, zs_222_223, zs_222_224, zs_222_225, zs_222_227, zs_222_230, zs_222_233, zs_222_234, zs_222_236, zs_222_239, zs_222_240, zs_222_241, zs_222_242, zs_222_243, zs_222_244, zs_222_247, zs_222_250, zs_222_251, zs_222_252, zs_222_254, zs_222_257, zs_222_260, zs_222_261, zs_222_263, zs_222_266, zs_222_267, zs_222_268, zs_222_269, zs_222_270, zs_222_272, zs_222_275, zs_222_278, zs_222_279, zs_222_280, zs_222_281, zs_222_284, zs_222_287, zs_222_288, zs_222_290, zs_222_293, zs_222_294, zs_222_295, zs_222_296, zs_222_297, zs_222_298, zs_222_301, zs_222_304, zs_222_305, zs_222_307, zs_222_308, zs_222_311, zs_222_314, zs_222_315, zs_222_316, zs_222_317, zs_222_320, zs_222_323, zs_222_324, zs_222_326, zs_222_329, zs_222_330, zs_222_331, zs_222_332, zs_222_333, zs_222_334, zs_222_337, zs_222_340, zs_222_341, zs_222_342, zs_222_344, zs_222_345, zs_222_348, zs_222_351, zs_222_354, zs_222_355, zs_222_357, zs_222_360, zs_222_361, zs_222_363, zs_222_364, zs_222_367, zs_222_370, zs_222_371, zs_222_372, zs_222_373, zs_222_374, zs_222_375, zs_222_377, zs_222_380, zs_222_382, h1, nI_1', zrc_13v, m1, m2, c1, c2, c3, c4, n1, n2, yb_t, yb_f, nI_1e0, e, zbk_v, zts_s, zts_n, ↓reduceIte]
            | false =>
              rw [if_neg (fun q => by cases q.2)]
              refine ⟨h, ?_, hm, zfm_rfl⟩
              simp only [zs_222_0, zs_222_1, zs_222_4, zs_222_5, zs_222_6, zs_222_9, zs_222_10, zs_222_11, zs_222_12, zs_222_13, zs_222_14, zs_222_15, zs_222_18, zs_222_19, zs_222_20, zs_222_23, zs_222_24, zs_222_27, zs_222_30, zs_222_31, zs_222_32, zs_222_33, zs_222_34, zs_222_35, zs_222_36, zs_222_37, zs_222_38, zs_222_41, zs_222_43, zs_222_44, zs_222_46, zs_222_49, zs_222_50, zs_222_53, zs_222_54, zs_222_55, zs_222_56, zs_222_57, zs_222_59, zs_222_62, zs_222_63, zs_222_64, zs_222_65, zs_222_68, zs_222_69, zs_222_70, zs_222_71, zs_222_72, zs_222_73, zs_222_76, zs_222_79, zs_222_80, zs_222_83, zs_222_84, zs_222_85, zs_222_86, zs_222_87, zs_222_89, zs_222_92, zs_222_93, zs_222_94, zs_222_95, zs_222_96, zs_222_97, zs_222_98, zs_222_101, zs_222_104, zs_222_106, zs_222_107, zs_222_108, zs_222_111, zs_222_113, zs_222_114, zs_222_116, zs_222_119, zs_222_121, zs_222_122, zs_222_125, zs_222_126, zs_222_127, zs_222_128, zs_222_129, zs_222_131, zs_222_134, zs_222_135, zs_222_138, zs_222_140, zs_222_141, zs_222_143, zs_222_146, zs_222_147, zs_222_148, zs_222_149, zs_222_150, zs_222_153, zs_222_154, zs_222_155, zs_222_156, zs_222_157, zs_222_158, zs_222_161, zs_222_163, zs_222_164, zs_222_167, zs_222_170, zs_222_173, zs_222_174, zs_222_176, zs_222_179, zs_222_180, zs_222_181, zs_222_182, zs_222_183, zs_222_184, zs_222_187, zs_222_190, zs_222_191, zs_222_192, zs_222_194, zs_222_195, zs_222_198, zs_222_201, zs_222_204, zs_222_205, zs_222_207, zs_222_210, zs_222_211, zs_222_213, zs_222_214, zs_222_217, zs_222_220, zs_222_221, zs_222_222, zs_222_223, zs_222_224, zs_222_225, zs_222_227, zs_222_230, zs_222_233, zs_222_234, zs_222_236, zs_222_239, zs_222_240, zs_222_241, zs_222_242, zs_222_243, zs_222_244, zs_222_247, zs_222_250, zs_222_251, zs_222_252, zs_222_254, zs_222_257, zs_222_260, zs_222_261, zs_222_263, zs_222_266, zs_222_267, zs_222_268, zs_222_269, zs_222_270, zs_222_272, zs_222_275, zs_222_278, zs_222_279, zs_222_280, zs_222_281, zs_222_284, zs_222_287, zs_222_288, zs_222_290, zs_222_293, zs_222_294, zs_222_295, zs_222_296, zs_222_297, zs_222_298, zs_222_301, zs_222_304, zs_222_305, zs_222_307, zs_222_308, zs_222_311, zs_222_314, zs_222_315, zs_222_316, zs_222_317, zs_222_320, zs_222_323, zs_222_324, zs_222_326, zs_222_329, zs_222_330, zs_222_331, zs_222_332, zs_222_333, zs_222_334, zs_222_337, zs_222_340, zs_222_341, zs_222_342, zs_222_344, zs_222_345, zs_222_348, zs_222_351, zs_222_354, zs_222_355, zs_222_357, zs_222_360, zs_222_361, zs_222_363, zs_222_364, zs_222_367, zs_222_370, zs_222_371, zs_222_372, zs_222_373, zs_222_374, zs_222_375, zs_222_377, zs_222_380, zs_222_382, h1, nI_1', zrc_13v, m1, m2, c1, c2, c3, c4, n1, n2, yb_f, zbk_v, zts_s, zts_n, ↓reduceIte]
end ZFH

theorem ysp_ypr {k v0 : Int32} {a b : yT} (hk : yis k = true) (hv : v0 = 0) : (if yk a = nI 99 ∧ yk b = nI 99 then ypr (ycn (yop k (yv a) (yv b))) else if k = nI 43 ∧ ynu a 0 = true then ypr b else if ¬ k = nI 42 ∧ ynu b 0 = true then ypr a else if k = nI 45 ∧ ynu a 0 = true then ypr (if yk b = nI 110 then yl b else ymk (nI 110) 0 b .leaf) else if k = nI 45 ∧ yeq a b = true then ypr (ycn 0) else if k = nI 42 ∧ (ynu a 0 = true ∨ ynu b 0 = true) then ypr (ycn 0) else if k = nI 42 ∧ ynu a (nI 1) = true then ypr b else if k = nI 42 ∧ ynu b (nI 1) = true then ypr a else (k, v0) :: (ypr a ++ ypr b)) = ypr (ysp k a b) := by
  subst hv
  have e0 : (k, (0 : Int32)) :: (ypr a ++ ypr b) = ypr (ymk k 0 a b) := by rw [ypr_mk, yva_o hk]
  unfold ysp
  by_cases c0 : yk a = nI 99 ∧ yk b = nI 99
  · rw [if_pos c0, if_pos c0]
  · rw [if_neg c0, if_neg c0]
    rcases yis_k hk with g | g | g
    · subst g
      have n1 : ¬ (nI 43 : Int32) = nI 42 := by decide +kernel
      have n2 : ¬ (nI 43 : Int32) = nI 45 := by decide +kernel
      rw [if_pos rfl]
      unfold ysu
      by_cases c1 : ynu a 0 = true
      · rw [if_pos ⟨rfl, c1⟩, if_pos c1]
      · rw [if_neg (fun q => c1 q.2), if_neg c1]
        by_cases c2 : ynu b 0 = true
        · rw [if_pos ⟨n1, c2⟩, if_pos c2]
        · rw [if_neg (fun q => c2 q.2), if_neg c2, if_neg (fun q => n2 q.1), if_neg (fun q => n2 q.1), if_neg (fun q => n1 q.1), if_neg (fun q => n1 q.1), if_neg (fun q => n1 q.1), e0]
    · subst g
      have n1 : ¬ (nI 45 : Int32) = nI 43 := by decide +kernel
      have n2 : ¬ (nI 45 : Int32) = nI 42 := by decide +kernel
      rw [if_neg (fun q => n1 q.1), if_neg n1, if_pos rfl]
      unfold ysd
      by_cases c2 : ynu b 0 = true
      · rw [if_pos ⟨n2, c2⟩, if_pos c2]
      · rw [if_neg (fun q => c2 q.2), if_neg c2]
        by_cases c1 : ynu a 0 = true
        · rw [if_pos ⟨rfl, c1⟩, if_pos c1]
        · rw [if_neg (fun q => c1 q.2), if_neg c1]
          by_cases c3 : yeq a b = true
          · rw [if_pos ⟨rfl, c3⟩, if_pos c3]
          · rw [if_neg (fun q => c3 q.2), if_neg c3, if_neg (fun q => n2 q.1), if_neg (fun q => n2 q.1), if_neg (fun q => n2 q.1), e0]
    · subst g
      have n1 : ¬ (nI 42 : Int32) = nI 43 := by decide +kernel
      have n2 : ¬ (nI 42 : Int32) = nI 45 := by decide +kernel
      rw [if_neg (fun q => n1 q.1), if_neg (fun q => q.1 rfl), if_neg (fun q => n2 q.1), if_neg (fun q => n2 q.1), if_neg n1, if_neg n2]
      unfold ysm
      by_cases c1 : ynu a 0 = true
      · rw [if_pos ⟨rfl, Or.inl c1⟩, if_pos c1]
      · rw [if_neg c1]
        by_cases c2 : ynu b 0 = true
        · rw [if_pos ⟨rfl, Or.inr c2⟩, if_pos c2]
        · rw [if_neg (fun q => q.2.elim c1 c2), if_neg c2]
          by_cases c3 : ynu a (nI 1) = true
          · rw [if_pos ⟨rfl, c3⟩, if_pos c3]
          · rw [if_neg (fun q => c3 q.2), if_neg c3]
            by_cases c4 : ynu b (nI 1) = true
            · rw [if_pos ⟨rfl, c4⟩, if_pos c4]
            · rw [if_neg (fun q => c4 q.2), if_neg c4, e0]
section ZFI
variable {sv : Nat → Value} {m : Nat} {F : Nat → Int32}
/-- a negation whose operand was made -/
theorem e_222n {d : Nat} {h : zH} {qs : yP} {nx nd s5 : Int32} {sl : Slot} {a : yT} (hm : zMd h m F (qs ++ (nI 110, 0) :: ypr a)) (ha : ytw a = true) (hq : ynk qs) : ∃ h', zrun zP sv (zcall zP sv (d + 3)) 222 43 [.val (.ref m), .val (.int nd), .val (.int (nI qs.length)), .val (.int (nI 110)), .val (.int nx), sl] [] h = some (.inl (some (.int nx)), h') ∧ zMd h' m F (qs ++ ypr (ysn a)) ∧ zfm m h h' := by
  obtain ⟨u, hu, hul, hu1⟩ := ypr_head ha
  have h1 := hm.1
  unfold zMo at h1
  have hL : (qs ++ (nI 110, (0 : Int32)) :: ypr a).length = qs.length + 1 + ysz a := by rw [List.length_append, List.length_cons, ypr_len]; omega
  have hL7 : (qs ++ (nI 110, (0 : Int32)) :: ypr a).length ≤ 700 := by
    obtain ⟨_, A, B, _, _, _, _, _, _, a7⟩ := hm
    exact a7
  have i1 : (qs ++ (nI 110, (0 : Int32)) :: ypr a)[qs.length + 1]? = some (yk a, yva (yk a) (yv a)) := by
    have e1 : (qs ++ (nI 110, (0 : Int32)) :: ypr a) = (qs ++ [(nI 110, 0)]) ++ ypr a := by rw [List.append_assoc]; rfl
    have l1 : (qs ++ [(nI 110, (0 : Int32))]).length = qs.length + 1 := List.length_append
    rw [e1, List.getElem?_append_right (by omega), l1, Nat.sub_self, hu]
    rfl
  obtain ⟨A, B, a1, a2, a3, a4, a5⟩ := e_made hm.2 i1
  have n9 : ((nI 110 : Int32) = nI 99) = False := by decide +kernel
  unfold ysn
  by_cases c1 : yk a = nI 99
  · rw [if_pos c1]
    rw [c1, yva_99] at a4
    obtain ⟨h', e, w, f⟩ := e_219 (sv := sv) (d := d + 1) (p := qs.length) (v := -(yv a)) hm (by omega) (by omega)
    rw [List.take_left' rfl, ← ypr_cn] at w
    refine ⟨h', ?_, w, f⟩
    simp only [zs_222_0, zs_222_1, zs_222_4, zs_222_5, zs_222_6, zs_222_9, zs_222_10, zs_222_11, zs_222_12, zs_222_13, zs_222_14, zs_222_15, zs_222_18, zs_222_19, zs_222_20, zs_222_23, zs_222_24, zs_222_27, zs_222_30, zs_222_31, zs_222_32, zs_222_33, zs_222_34, zs_222_35, zs_222_36, zs_222_37, zs_222_38, zs_222_41, zs_222_43, zs_222_44, zs_222_46, zs_222_49, zs_222_50, zs_222_53, zs_222_54, zs_222_55, zs_222_56, zs_222_57, zs_222_59, zs_222_62, zs_222_63, zs_222_64, zs_222_65, zs_222_68, zs_222_69, zs_222_70, zs_222_71, zs_222_72, zs_222_73, zs_222_76, zs_222_79, zs_222_80, zs_222_83, zs_222_84, zs_222_85, zs_222_86, zs_222_87, zs_222_89, zs_222_92, zs_222_93, zs_222_94, zs_222_95, zs_222_96, zs_222_97, zs_222_98, zs_222_101, zs_222_104, zs_222_106, zs_222_107, zs_222_108, zs_222_111, zs_222_113, zs_222_114, zs_222_116, zs_222_119, zs_222_121, zs_222_122, zs_222_125, zs_222_126, zs_222_127, zs_222_128, zs_222_129, zs_222_131, zs_222_134, zs_222_135, zs_222_138, zs_222_140, zs_222_141, zs_222_143, zs_222_146, zs_222_147, zs_222_148, zs_222_149, zs_222_150, zs_222_153, zs_222_154, zs_222_155, zs_222_156, zs_222_157, zs_222_158, zs_222_161, zs_222_163, zs_222_164, zs_222_167, zs_222_170, zs_222_173, zs_222_174, zs_222_176, zs_222_179, zs_222_180, zs_222_181, zs_222_182, zs_222_183, zs_222_184, zs_222_187, zs_222_190, zs_222_191, zs_222_192, zs_222_194, zs_222_195, zs_222_198, zs_222_201, zs_222_204, zs_222_205, zs_222_207, zs_222_210, zs_222_211, zs_222_213, zs_222_214, zs_222_217, zs_222_220, zs_222_221, zs_222_222, zs_222_223, zs_222_224, zs_222_225, zs_222_227, zs_222_230, zs_222_233, zs_222_234, zs_222_236, zs_222_239, zs_222_240, zs_222_241, zs_222_242, zs_222_243, zs_222_244, zs_222_247, zs_222_250, zs_222_251, zs_222_252, zs_222_254, zs_222_257, zs_222_260, zs_222_261, zs_222_263, zs_222_266, zs_222_267, zs_222_268, zs_222_269, zs_222_270, zs_222_272, zs_222_275, zs_222_278, zs_222_279, zs_222_280, zs_222_281, zs_222_284, zs_222_287, zs_222_288, zs_222_290, zs_222_293, zs_222_294, zs_222_295, zs_222_296, zs_222_297, zs_222_298, zs_222_301, zs_222_304, zs_222_305, zs_222_307, zs_222_308, zs_222_311, zs_222_314, zs_222_315, zs_222_316, zs_222_317, zs_222_320, zs_222_323, zs_222_324, zs_222_326, zs_222_329, zs_222_330, zs_222_331, zs_222_332, zs_222_333, zs_222_334, zs_222_337, zs_222_340, zs_222_341, zs_222_342, zs_222_344, zs_222_345, zs_222_348, zs_222_351, zs_222_354, zs_222_355, zs_222_357, zs_222_360, zs_222_361, zs_222_363, zs_222_364, zs_222_367, zs_222_370, zs_222_371, zs_222_372, zs_222_373, zs_222_374, zs_222_375, zs_222_377, zs_222_380, zs_222_382, h1, zmf_9, zmf_10, a1, a2, nI_1', a3, a4, if_pos c1, zrc_13v, e, zbk_v, zts_n, ↓reduceIte]
  · rw [if_neg c1]
    by_cases c2 : yk a = nI 110
    · rw [if_pos c2]
      have hK : ynk (qs ++ (nI 110, (0 : Int32)) :: ([(yk a, yva (yk a) (yv a))] ++ u)) := by
        have : [(yk a, yva (yk a) (yv a))] ++ u = ypr a := by rw [hu]; rfl
        rw [this]
        exact ynk_app hq (ynk_cons ynr_110 (ynk_ypr a (Or.inr ha)))
      obtain ⟨s1, s2, s3, s4⟩ := yseg (qs := qs) (u := [(yk a, yva (yk a) (yv a))]) (v := u) (x := (nI 110, (0 : Int32)))
      have hm' : zMd h m F (qs ++ (nI 110, (0 : Int32)) :: ([(yk a, yva (yk a) (yv a))] ++ u)) := by
        have : [(yk a, yva (yk a) (yv a))] ++ u = ypr a := by rw [hu]; rfl
        rw [this]
        exact hm
      obtain ⟨h', e, w, f⟩ := e_218 (sv := sv) (d := d + 2) (p := qs.length) (x := 1 + 1) (n := u.length) hm' (by rw [s4]; exact Nat.le_refl _) hK
      rw [s1] at w
      have s3' : ((qs ++ (nI 110, (0 : Int32)) :: ([(yk a, yva (yk a) (yv a))] ++ u)).drop (qs.length + (1 + 1))).take u.length = u := s3
      rw [s3', hu1 c2] at w
      refine ⟨h', ?_, w, f⟩
      have e9 : qs.length + (1 + 1) + u.length = qs.length + 1 + ysz a := by omega
      rw [e9] at e
      rw [hL] at h1
      simp only [zs_222_0, zs_222_1, zs_222_4, zs_222_5, zs_222_6, zs_222_9, zs_222_10, zs_222_11, zs_222_12, zs_222_13, zs_222_14, zs_222_15, zs_222_18, zs_222_19, zs_222_20, zs_222_23, zs_222_24, zs_222_27, zs_222_30, zs_222_31, zs_222_32, zs_222_33, zs_222_34, zs_222_35, zs_222_36, zs_222_37, zs_222_38, zs_222_41, zs_222_43, zs_222_44, zs_222_46, zs_222_49, zs_222_50, zs_222_53, zs_222_54, zs_222_55, zs_222_56, zs_222_57, zs_222_59, zs_222_62, zs_222_63, zs_222_64, zs_222_65, zs_222_68, zs_222_69, zs_222_70, zs_222_71, zs_222_72, zs_222_73, zs_222_76, zs_222_79, zs_222_80, zs_222_83, zs_222_84, zs_222_85, zs_222_86, zs_222_87, zs_222_89, zs_222_92, zs_222_93, zs_222_94, zs_222_95, zs_222_96, zs_222_97, zs_222_98, zs_222_101, zs_222_104, zs_222_106, zs_222_107, zs_222_108, zs_222_111, zs_222_113, zs_222_114, zs_222_116, zs_222_119, zs_222_121, zs_222_122, zs_222_125, zs_222_126, zs_222_127, zs_222_128, zs_222_129, zs_222_131, zs_222_134, zs_222_135, zs_222_138, zs_222_140, zs_222_141, zs_222_143, zs_222_146, zs_222_147, zs_222_148, zs_222_149, zs_222_150, zs_222_153, zs_222_154, zs_222_155, zs_222_156, zs_222_157, zs_222_158, zs_222_161, zs_222_163, zs_222_164, zs_222_167, zs_222_170, zs_222_173, zs_222_174, zs_222_176, zs_222_179, zs_222_180, zs_222_181, zs_222_182, zs_222_183, zs_222_184, zs_222_187, zs_222_190, zs_222_191, zs_222_192, zs_222_194, zs_222_195, zs_222_198, zs_222_201, zs_222_204, zs_222_205, zs_222_207, zs_222_210, zs_222_211, zs_222_213, zs_222_214, zs_222_217, zs_222_220, zs_222_221, zs_222_222, zs_222_223, zs_222_224, zs_222_225, zs_222_227, zs_222_230, zs_222_233, zs_222_234, zs_222_236, zs_222_239, zs_222_240, zs_222_241, zs_222_242, zs_222_243, zs_222_244, zs_222_247, zs_222_250, zs_222_251, zs_222_252, zs_222_254, zs_222_257, zs_222_260, zs_222_261, zs_222_263, zs_222_266, zs_222_267, zs_222_268, zs_222_269, zs_222_270, zs_222_272, zs_222_275, zs_222_278, zs_222_279, zs_222_280, zs_222_281, zs_222_284, zs_222_287, zs_222_288, zs_222_290, zs_222_293, zs_222_294, zs_222_295, zs_222_296, zs_222_297, zs_222_298, zs_222_301, zs_222_304, zs_222_305, zs_222_307, zs_222_308, zs_222_311, zs_222_314, zs_222_315, zs_222_316, zs_222_317, zs_222_320, zs_222_323, zs_222_324, zs_222_326, zs_222_329, zs_222_330, zs_222_331, zs_222_332, zs_222_333, zs_222_334, zs_222_337, zs_222_340, zs_222_341, zs_222_342, zs_222_344, zs_222_345, zs_222_348, zs_222_351, zs_222_354, zs_222_355, zs_222_357, zs_222_360, zs_222_361, zs_222_363, zs_222_364, zs_222_367, zs_222_370, zs_222_371, zs_222_372, zs_222_373, zs_222_374, zs_222_375, zs_222_377, zs_222_380, zs_222_382, h1, zmf_9, zmf_11, yup_eq, a1, nI_1', a3, if_neg c1, if_pos c2, zrc_13v, nI_add, e, zbk_v, zts_n, ↓reduceIte]
    · rw [if_neg c2]
      refine ⟨h, ?_, ?_, zfm_rfl⟩
      · simp only [zs_222_0, zs_222_1, zs_222_4, zs_222_5, zs_222_6, zs_222_9, zs_222_10, zs_222_11, zs_222_12, zs_222_13, zs_222_14, zs_222_15, zs_222_18, zs_222_19, zs_222_20, zs_222_23, zs_222_24, zs_222_27, zs_222_30, zs_222_31, zs_222_32, zs_222_33, zs_222_34, zs_222_35, zs_222_36, zs_222_37, zs_222_38, zs_222_41, zs_222_43, zs_222_44, zs_222_46, zs_222_49, zs_222_50, zs_222_53, zs_222_54, zs_222_55, zs_222_56, zs_222_57, zs_222_59, zs_222_62, zs_222_63, zs_222_64, zs_222_65, zs_222_68, zs_222_69, zs_222_70, zs_222_71, zs_222_72, zs_222_73, zs_222_76, zs_222_79, zs_222_80, zs_222_83, zs_222_84, zs_222_85, zs_222_86, zs_222_87, zs_222_89, zs_222_92, zs_222_93, zs_222_94, zs_222_95, zs_222_96, zs_222_97, zs_222_98, zs_222_101, zs_222_104, zs_222_106, zs_222_107, zs_222_108, zs_222_111, zs_222_113, zs_222_114, zs_222_116, zs_222_119, zs_222_121, zs_222_122, zs_222_125, zs_222_126, zs_222_127, zs_222_128, zs_222_129, zs_222_131, zs_222_134, zs_222_135, zs_222_138, zs_222_140, zs_222_141, zs_222_143, zs_222_146, zs_222_147, zs_222_148, zs_222_149, zs_222_150, zs_222_153, zs_222_154, zs_222_155, zs_222_156, zs_222_157, zs_222_158, zs_222_161, zs_222_163, zs_222_164, zs_222_167, zs_222_170, zs_222_173, zs_222_174, zs_222_176, zs_222_179, zs_222_180, zs_222_181, zs_222_182, zs_222_183, zs_222_184, zs_222_187, zs_222_190, zs_222_191, zs_222_192, zs_222_194, zs_222_195, zs_222_198, zs_222_201, zs_222_204, zs_222_205, zs_222_207, zs_222_210, zs_222_211, zs_222_213, zs_222_214, zs_222_217, zs_222_220, zs_222_221, zs_222_222, zs_222_223, zs_222_224, zs_222_225, zs_222_227, zs_222_230, zs_222_233, zs_222_234, zs_222_236, zs_222_239, zs_222_240, zs_222_241, zs_222_242, zs_222_243, zs_222_244, zs_222_247, zs_222_250, zs_222_251, zs_222_252, zs_222_254, zs_222_257, zs_222_260, zs_222_261, zs_222_263, zs_222_266, zs_222_267, zs_222_268, zs_222_269, zs_222_270, zs_222_272, zs_222_275, zs_222_278, zs_222_279, zs_222_280, zs_222_281, zs_222_284, zs_222_287, zs_222_288, zs_222_290, zs_222_293, zs_222_294, zs_222_295, zs_222_296, zs_222_297, zs_222_298, zs_222_301, zs_222_304, zs_222_305, zs_222_307, zs_222_308, zs_222_311, zs_222_314, zs_222_315, zs_222_316, zs_222_317, zs_222_320, zs_222_323, zs_222_324, zs_222_326, zs_222_329, zs_222_330, zs_222_331, zs_222_332, zs_222_333, zs_222_334, zs_222_337, zs_222_340, zs_222_341, zs_222_342, zs_222_344, zs_222_345, zs_222_348, zs_222_351, zs_222_354, zs_222_355, zs_222_357, zs_222_360, zs_222_361, zs_222_363, zs_222_364, zs_222_367, zs_222_370, zs_222_371, zs_222_372, zs_222_373, zs_222_374, zs_222_375, zs_222_377, zs_222_380, zs_222_382, h1, zmf_9, a1, nI_1', a3, if_neg c1, if_neg c2, ↓reduceIte]
      · rw [ypr_mk, yva_110, show ypr (.leaf : yT) = [] from rfl, List.append_nil]
        exact hm
theorem e_222 : ∀ (t : yT), ytw t = true → ∀ (D : Nat) (pre post qs : yP) (h : zH), ydp t + 4 ≤ D → zLst h (m + 5) (m + 6) (pre ++ ypr t ++ post) → zMd h m F qs → ynk qs → qs.length + ysz t ≤ 700 → ∃ h', zcall zP sv D 222 [.ref m, .int (nI pre.length)] h = some (.inl (some (.int (nI (pre.length + ysz t)))), h') ∧ zMd h' m F (qs ++ ypr (ysim t)) ∧ zfm m h h'
  | .leaf, ht => by cases ht
  | .inner z k v l r, ht => by
    intro D pre post qs h hD hl hm hq h7
    obtain ⟨d, rfl⟩ : ∃ d, D = d + 4 := ⟨D - 4, by omega⟩
    have hD' : max (ydp l) (ydp r) + 1 + 4 ≤ d + 4 := hD
    have h7' : qs.length + (ysz l + ysz r + 1) ≤ 700 := h7
    have m1 := Nat.le_max_left (ydp l) (ydp r)
    have m2 := Nat.le_max_right (ydp l) (ydp r)
    have e0 : pre ++ ypr (.inner z k v l r) ++ post = pre ++ (k, yva k v) :: (ypr l ++ ypr r ++ post) := by
      show pre ++ (k, yva k v) :: (ypr l ++ ypr r) ++ post = _
      rw [List.append_assoc]; rfl
    have hi : (pre ++ (k, yva k v) :: (ypr l ++ ypr r ++ post))[pre.length]? = some (k, yva k v) := by
      rw [List.getElem?_append_right (Nat.le_refl _), Nat.sub_self]; rfl
    rw [e0] at hl
    obtain ⟨A, B, a1, a2, a3, a4, a5⟩ := e_look hl hi
    have h1 := hm.1
    unfold zMo at h1
    have hnr : ynr k = k := by
      rcases ytw_el ht with g | g | g | g
      · rw [g.1, ynr_99]
      · rw [g.1, ynr_118]
      · rw [g.1, ynr_110]
      · exact ynr_o g.1
    obtain ⟨h2, e2, w2, f2⟩ := e_216 (sv := sv) (d := d + 2) (k := k) (v := yva k v) hm (by omega) hnr
    have hl2 := zLst_fm hl f2
    have ea : pre ++ (k, yva k v) :: (ypr l ++ ypr r ++ post) = (pre ++ [(k, yva k v)]) ++ ypr l ++ (ypr r ++ post) := by
      rw [List.append_assoc, List.append_assoc, List.append_assoc]; rfl
    have eb : pre ++ (k, yva k v) :: (ypr l ++ ypr r ++ post) = (pre ++ [(k, yva k v)] ++ ypr l) ++ ypr r ++ post := by
      rw [ea]
      simp only [List.append_assoc]
    have l1 : (pre ++ [(k, yva k v)]).length = pre.length + 1 := List.length_append
    have l2 : (pre ++ [(k, yva k v)] ++ ypr l).length = pre.length + 1 + ysz l := by rw [List.length_append, l1, ypr_len]
    have hq2 : ynk (qs ++ [(k, yva k v)]) := ynk_app hq (ynk_cons hnr ynk_nil)
    have lq : (qs ++ [(k, yva k v)]).length = qs.length + 1 := List.length_append
    rcases ytw_el ht with g | g | g | g
    · obtain ⟨g1, g2, g3⟩ := g
      subst g1 g2 g3
      refine ⟨h2, ?_, w2, f2⟩
      simp (disch := exact znw_u) only [zc_222, zs_222_0, zs_222_1, zs_222_4, zs_222_5, zs_222_6, zs_222_9, zs_222_10, zs_222_11, zs_222_12, zs_222_13, zs_222_14, zs_222_15, zs_222_18, zs_222_19, zs_222_20, zs_222_23, zs_222_24, zs_222_27, zs_222_30, zs_222_31, zs_222_32, zs_222_33, zs_222_34, zs_222_35, zs_222_36, zs_222_37, zs_222_38, zs_222_41, zs_222_43, zs_222_44, zs_222_46, zs_222_49, zs_222_50, zs_222_53, zs_222_54, zs_222_55, zs_222_56, zs_222_57, zs_222_59, zs_222_62, zs_222_63, zs_222_64, zs_222_65, zs_222_68, zs_222_69, zs_222_70, zs_222_71, zs_222_72, zs_222_73, zs_222_76, zs_222_79, zs_222_80, zs_222_83, zs_222_84, zs_222_85, zs_222_86, zs_222_87, zs_222_89, zs_222_92, zs_222_93, zs_222_94, zs_222_95, zs_222_96, zs_222_97, zs_222_98, zs_222_101, zs_222_104, zs_222_106, zs_222_107, zs_222_108, zs_222_111, zs_222_113, zs_222_114, zs_222_116, zs_222_119, zs_222_121, zs_222_122, zs_222_125, zs_222_126, zs_222_127, zs_222_128, zs_222_129, zs_222_131, zs_222_134, zs_222_135, zs_222_138, zs_222_140, zs_222_141, zs_222_143, zs_222_146, zs_222_147, zs_222_148, zs_222_149, zs_222_150, zs_222_153, zs_222_154, zs_222_155, zs_222_156, zs_222_157, zs_222_158, zs_222_161, zs_222_163, zs_222_164, zs_222_167, zs_222_170, zs_222_173, zs_222_174, zs_222_176, zs_222_179, zs_222_180, zs_222_181, zs_222_182, zs_222_183, zs_222_184, zs_222_187, zs_222_190, zs_222_191, zs_222_192, zs_222_194, zs_222_195, zs_222_198, zs_222_201, zs_222_204, zs_222_205, zs_222_207, zs_222_210, zs_222_211, zs_222_213, zs_222_214, zs_222_217, zs_222_220, zs_222_221, zs_222_222, zs_222_223, zs_222_224, zs_222_225, zs_222_227, zs_222_230, zs_222_233, zs_222_234, zs_222_236, zs_222_239, zs_222_240, zs_222_241, zs_222_242, zs_222_243, zs_222_244, zs_222_247, zs_222_250, zs_222_251, zs_222_252, zs_222_254, zs_222_257, zs_222_260, zs_222_261, zs_222_263, zs_222_266, zs_222_267, zs_222_268, zs_222_269, zs_222_270, zs_222_272, zs_222_275, zs_222_278, zs_222_279, zs_222_280, zs_222_281, zs_222_284, zs_222_287, zs_222_288, zs_222_290, zs_222_293, zs_222_294, zs_222_295, zs_222_296, zs_222_297, zs_222_298, zs_222_301, zs_222_304, zs_222_305, zs_222_307, zs_222_308, zs_222_311, zs_222_314, zs_222_315, zs_222_316, zs_222_317, zs_222_320, zs_222_323, zs_222_324, zs_222_326, zs_222_329, zs_222_330, zs_222_331, zs_222_332, zs_222_333, zs_222_334, zs_222_337, zs_222_340, zs_222_341, zs_222_342, zs_222_344, zs_222_345, zs_222_348, zs_222_351, zs_222_354, zs_222_355, zs_222_357, zs_222_360, zs_222_361, zs_222_363, zs_222_364, zs_222_367, zs_222_370, zs_222_371, zs_222_372, zs_222_373, zs_222_374, zs_222_375, zs_222_377, zs_222_380, zs_222_382, h1, zmf_6, zmf_7, zmf_11, yup_eq, a1, a2, a3, a4, zrc_13v, e2, e_205, yar_c, nI_1', zbk_v, zts_s, zts_n, ↓reduceIte]
      rfl
    · obtain ⟨g1, g4, g2, g3⟩ := g
      subst g1 g2 g3
      refine ⟨h2, ?_, w2, f2⟩
      simp (disch := exact znw_u) only [zc_222, zs_222_0, zs_222_1, zs_222_4, zs_222_5, zs_222_6, zs_222_9, zs_222_10, zs_222_11, zs_222_12, zs_222_13, zs_222_14, zs_222_15, zs_222_18, zs_222_19, zs_222_20, zs_222_23, zs_222_24, zs_222_27, zs_222_30, zs_222_31, zs_222_32, zs_222_33, zs_222_34, zs_222_35, zs_222_36, zs_222_37, zs_222_38, zs_222_41, zs_222_43, zs_222_44, zs_222_46, zs_222_49, zs_222_50, zs_222_53, zs_222_54, zs_222_55, zs_222_56, zs_222_57, zs_222_59, zs_222_62, zs_222_63, zs_222_64, zs_222_65, zs_222_68, zs_222_69, zs_222_70, zs_222_71, zs_222_72, zs_222_73, zs_222_76, zs_222_79, zs_222_80, zs_222_83, zs_222_84, zs_222_85, zs_222_86, zs_222_87, zs_222_89, zs_222_92, zs_222_93, zs_222_94, zs_222_95, zs_222_96, zs_222_97, zs_222_98, zs_222_101, zs_222_104, zs_222_106, zs_222_107, zs_222_108, zs_222_111, zs_222_113, zs_222_114, zs_222_116, zs_222_119, zs_222_121, zs_222_122, zs_222_125, zs_222_126, zs_222_127, zs_222_128, zs_222_129, zs_222_131, zs_222_134, zs_222_135, zs_222_138, zs_222_140, zs_222_141, zs_222_143, zs_222_146, zs_222_147, zs_222_148, zs_222_149, zs_222_150, zs_222_153, zs_222_154, zs_222_155, zs_222_156, zs_222_157, zs_222_158, zs_222_161, zs_222_163, zs_222_164, zs_222_167, zs_222_170, zs_222_173, zs_222_174, zs_222_176, zs_222_179, zs_222_180, zs_222_181, zs_222_182, zs_222_183, zs_222_184, zs_222_187, zs_222_190, zs_222_191, zs_222_192, zs_222_194, zs_222_195, zs_222_198, zs_222_201, zs_222_204, zs_222_205, zs_222_207, zs_222_210, zs_222_211, zs_222_213, zs_222_214, zs_222_217, zs_222_220, zs_222_221, zs_222_222, zs_222_223, zs_222_224, zs_222_225, zs_222_227, zs_222_230, zs_222_233, zs_222_234, zs_222_236, zs_222_239, zs_222_240, zs_222_241, zs_222_242, zs_222_243, zs_222_244, zs_222_247, zs_222_250, zs_222_251, zs_222_252, zs_222_254, zs_222_257, zs_222_260, zs_222_261, zs_222_263, zs_222_266, zs_222_267, zs_222_268, zs_222_269, zs_222_270, zs_222_272, zs_222_275, zs_222_278, zs_222_279, zs_222_280, zs_222_281, zs_222_284, zs_222_287, zs_222_288, zs_222_290, zs_222_293, zs_222_294, zs_222_295, zs_222_296, zs_222_297, zs_222_298, zs_222_301, zs_222_304, zs_222_305, zs_222_307, zs_222_308, zs_222_311, zs_222_314, zs_222_315, zs_222_316, zs_222_317, zs_222_320, zs_222_323, zs_222_324, zs_222_326, zs_222_329, zs_222_330, zs_222_331, zs_222_332, zs_222_333, zs_222_334, zs_222_337, zs_222_340, zs_222_341, zs_222_342, zs_222_344, zs_222_345, zs_222_348, zs_222_351, zs_222_354, zs_222_355, zs_222_357, zs_222_360, zs_222_361, zs_222_363, zs_222_364, zs_222_367, zs_222_370, zs_222_371, zs_222_372, zs_222_373, zs_222_374, zs_222_375, zs_222_377, zs_222_380, zs_222_382, h1, zmf_6, zmf_7, zmf_11, yup_eq, a1, a2, a3, a4, zrc_13v, e2, e_205, yar_v, nI_1', zbk_v, zts_s, zts_n, ↓reduceIte]
      rfl
    · obtain ⟨g1, gv, g2, g3⟩ := g
      subst g1 gv g3
      rw [ea] at hl2
      obtain ⟨h3, e3, w3, f3⟩ := e_222 l g2 (d + 3) _ _ _ h2 (by omega) hl2 w2 hq2 (by rw [lq]; omega)
      rw [l1] at e3
      rw [yva_110] at w3
      rw [List.append_assoc] at w3
      obtain ⟨h4, e4, w4, f4⟩ := e_222n (sv := sv) (d := d) (nx := nI (pre.length + 1 + ysz l)) (nd := nI pre.length) (s5 := 0) (sl := .unset) w3 (ytw_ysim l g2) hq
      refine ⟨h4, ?_, ?_, zfm_tr (zfm_tr f2 f3) f4⟩
      · have e5 : zcall zP sv (d + 4) 222 [.ref m, .int (nI pre.length)] h = zrun zP sv (zcall zP sv (d + 3)) 222 43 [.val (.ref m), .val (.int (nI pre.length)), .val (.int (nI qs.length)), .val (.int (nI 110)), .val (.int (nI (pre.length + 1 + ysz l))), .unset] [] h3 := by
          simp (disch := exact znw_u) only [zc_222, zs_222_0, zs_222_1, zs_222_4, zs_222_5, zs_222_6, zs_222_9, zs_222_10, zs_222_11, zs_222_12, zs_222_13, zs_222_14, zs_222_15, zs_222_18, zs_222_19, zs_222_20, zs_222_23, zs_222_24, zs_222_27, zs_222_30, zs_222_31, zs_222_32, zs_222_33, zs_222_34, zs_222_35, zs_222_36, zs_222_37, zs_222_38, zs_222_41, zs_222_44, zs_222_46, zs_222_49, zs_222_50, zs_222_53, zs_222_54, zs_222_55, zs_222_56, zs_222_57, zs_222_59, zs_222_62, zs_222_63, zs_222_64, zs_222_65, zs_222_68, zs_222_69, zs_222_70, zs_222_71, zs_222_72, zs_222_73, zs_222_76, zs_222_79, zs_222_80, zs_222_83, zs_222_84, zs_222_85, zs_222_86, zs_222_87, zs_222_89, zs_222_92, zs_222_93, zs_222_94, zs_222_95, zs_222_96, zs_222_97, zs_222_98, zs_222_101, zs_222_104, zs_222_106, zs_222_107, zs_222_108, zs_222_111, zs_222_113, zs_222_114, zs_222_116, zs_222_119, zs_222_121, zs_222_122, zs_222_125, zs_222_126, zs_222_127, zs_222_128, zs_222_129, zs_222_131, zs_222_134, zs_222_135, zs_222_138, zs_222_140, zs_222_141, zs_222_143, zs_222_146, zs_222_147, zs_222_148, zs_222_149, zs_222_150, zs_222_153, zs_222_154, zs_222_155, zs_222_156, zs_222_157, zs_222_158, zs_222_161, zs_222_163, zs_222_164, zs_222_167, zs_222_170, zs_222_173, zs_222_174, zs_222_176, zs_222_179, zs_222_180, zs_222_181, zs_222_182, zs_222_183, zs_222_184, zs_222_187, zs_222_190, zs_222_191, zs_222_192, zs_222_194, zs_222_195, zs_222_198, zs_222_201, zs_222_204, zs_222_205, zs_222_207, zs_222_210, zs_222_211, zs_222_213, zs_222_214, zs_222_217, zs_222_220, zs_222_221, zs_222_222, zs_222_223, zs_222_224, zs_222_225, zs_222_227, zs_222_230, zs_222_233, zs_222_234, zs_222_236, zs_222_239, zs_222_240, zs_222_241, zs_222_242, zs_222_243, zs_222_244, zs_222_247, zs_222_250, zs_222_251, zs_222_252, zs_222_254, zs_222_257, zs_222_260, zs_222_261, zs_222_263, zs_222_266, zs_222_267, zs_222_268, zs_222_269, zs_222_270, zs_222_272, zs_222_275, zs_222_278, zs_222_279, zs_222_280, zs_222_281, zs_222_284, zs_222_287, zs_222_288, zs_222_290, zs_222_293, zs_222_294, zs_222_295, zs_222_296, zs_222_297, zs_222_298, zs_222_301, zs_222_304, zs_222_305, zs_222_307, zs_222_308, zs_222_311, zs_222_314, zs_222_315, zs_222_316, zs_222_317, zs_222_320, zs_222_323, zs_222_324, zs_222_326, zs_222_329, zs_222_330, zs_222_331, zs_222_332, zs_222_333, zs_222_334, zs_222_337, zs_222_340, zs_222_341, zs_222_342, zs_222_344, zs_222_345, zs_222_348, zs_222_351, zs_222_354, zs_222_355, zs_222_357, zs_222_360, zs_222_361, zs_222_363, zs_222_364, zs_222_367, zs_222_370, zs_222_371, zs_222_372, zs_222_373, zs_222_374, zs_222_375, zs_222_377, zs_222_380, zs_222_382, h1, zmf_6, zmf_7, zmf_11, yup_eq, a1, a2, a3, a4, zrc_13v, e2, e_205, yar_n, nI_1e0, nI_1', zMd_rc w2, e3, zbk_v, zts_s, zts_n, ↓reduceIte]
        rw [e5, e4, show pre.length + 1 + ysz l = pre.length + (ysz l + 0 + 1) by omega]
        rfl
      · rw [show ysim (.inner z (nI 110) 0 l .leaf) = ysn (ysim l) from if_pos rfl]
        exact w4
    · obtain ⟨gk, gv, g2, g3⟩ := g
      subst gv
      have hl2' := hl2
      rw [ea] at hl2
      obtain ⟨h3, e3, w3, f3⟩ := e_222 l g2 (d + 3) _ _ _ h2 (by omega) hl2 w2 hq2 (by rw [lq]; omega)
      rw [l1] at e3
      have hsl := ysz_ysim l
      have wl := ytw_ysim l g2
      have wr := ytw_ysim r g3
      have hl3 := zLst_fm hl2' f3
      rw [eb] at hl3
      have lq3 : (qs ++ [(k, yva k 0)] ++ ypr (ysim l)).length = qs.length + 1 + ysz (ysim l) := by rw [List.length_append, lq, ypr_len]
      obtain ⟨h4, e4, w4, f4⟩ := e_222 r g3 (d + 3) _ _ _ h3 (by omega) hl3 w3 (ynk_app hq2 (ynk_ypr _ (Or.inr wl))) (by rw [lq3]; omega)
      rw [l2] at e4
      have w3h := w3.1
      unfold zMo at w3h
      rw [lq3] at w3h
      have w4' : zMd h4 m F (qs ++ (k, yva k 0) :: (ypr (ysim l) ++ ypr (ysim r))) := by
        have : qs ++ [(k, yva k 0)] ++ ypr (ysim l) ++ ypr (ysim r) = qs ++ (k, yva k 0) :: (ypr (ysim l) ++ ypr (ysim r)) := by
          rw [List.append_assoc, List.append_assoc]; rfl
        rw [← this]
        exact w4
      obtain ⟨h5, e5, w5, f5⟩ := e_222t (sv := sv) (d := d) (nx := nI (pre.length + 1 + ysz l + ysz r)) (nd := nI pre.length) w4' gk wl wr hq
      rw [ysp_ypr gk (yva_o gk)] at w5
      refine ⟨h5, ?_, ?_, zfm_tr (zfm_tr (zfm_tr f2 f3) f4) f5⟩
      · have n1 : (k = nI 110) = False := by
          have := yis_n110 gk
          simp [this]
        have n2 : ((nI 2 : Int32) = 0) = False := by decide +kernel
        have e6 : zcall zP sv (d + 4) 222 [.ref m, .int (nI pre.length)] h = zrun zP sv (zcall zP sv (d + 3)) 222 121 [.val (.ref m), .val (.int (nI pre.length)), .val (.int (nI qs.length)), .val (.int k), .val (.int (nI (pre.length + 1 + ysz l + ysz r))), .val (.int (nI (qs.length + 1 + ysz (ysim l))))] [] h4 := by
          simp (disch := first | exact znw_u | exact znw_i) only [zc_222, zs_222_0, zs_222_1, zs_222_4, zs_222_5, zs_222_6, zs_222_9, zs_222_10, zs_222_11, zs_222_12, zs_222_13, zs_222_14, zs_222_15, zs_222_18, zs_222_19, zs_222_20, zs_222_23, zs_222_24, zs_222_27, zs_222_30, zs_222_31, zs_222_32, zs_222_33, zs_222_34, zs_222_35, zs_222_36, zs_222_37, zs_222_38, zs_222_41, zs_222_43, zs_222_44, zs_222_46, zs_222_49, zs_222_50, zs_222_53, zs_222_54, zs_222_55, zs_222_56, zs_222_57, zs_222_59, zs_222_62, zs_222_63, zs_222_64, zs_222_65, zs_222_68, zs_222_69, zs_222_70, zs_222_71, zs_222_72, zs_222_73, zs_222_76, zs_222_79, zs_222_80, zs_222_83, zs_222_84, zs_222_85, zs_222_86, zs_222_87, zs_222_89, zs_222_92, zs_222_93, zs_222_94, zs_222_95, zs_222_96, zs_222_97, zs_222_98, zs_222_101, zs_222_104, zs_222_106, zs_222_107, zs_222_108, zs_222_111, zs_222_113, zs_222_114, zs_222_116, zs_222_119, zs_222_122, zs_222_125, zs_222_126, zs_222_127, zs_222_128, zs_222_129, zs_222_131, zs_222_134, zs_222_135, zs_222_138, zs_222_140, zs_222_141, zs_222_143, zs_222_146, zs_222_147, zs_222_148, zs_222_149, zs_222_150, zs_222_153, zs_222_154, zs_222_155, zs_222_156, zs_222_157, zs_222_158, zs_222_161, zs_222_163, zs_222_164, zs_222_167, zs_222_170, zs_222_173, zs_222_174, zs_222_176, zs_222_179, zs_222_180, zs_222_181, zs_222_182, zs_222_183, zs_222_184, zs_222_187, zs_222_190, zs_222_191, zs_222_192, zs_222_194, zs_222_195, zs_222_198, zs_222_201, zs_222_204, zs_222_205, zs_222_207, zs_222_210, zs_222_211, zs_222_213, zs_222_214, zs_222_217, zs_222_220, zs_222_221, zs_222_222, zs_222_223, zs_222_224, zs_222_225, zs_222_227, zs_222_230, zs_222_233, zs_222_234, zs_222_236, zs_222_239, zs_222_240, zs_222_241, zs_222_242, zs_222_243, zs_222_244, zs_222_247, zs_222_250, zs_222_251, zs_222_252, zs_222_254, zs_222_257, zs_222_260, zs_222_261, zs_222_263, zs_222_266, zs_222_267, zs_222_268, zs_222_269, zs_222_270, zs_222_272, zs_222_275, zs_222_278, zs_222_279, zs_222_280, zs_222_281, zs_222_284, zs_222_287, zs_222_288, zs_222_290, zs_222_293, zs_222_294, zs_222_295, zs_222_296, zs_222_297, zs_222_298, zs_222_301, zs_222_304, zs_222_305, zs_222_307, zs_222_308, zs_222_311, zs_222_314, zs_222_315, zs_222_316, zs_222_317, zs_222_320, zs_222_323, zs_222_324, zs_222_326, zs_222_329, zs_222_330, zs_222_331, zs_222_332, zs_222_333, zs_222_334, zs_222_337, zs_222_340, zs_222_341, zs_222_342, zs_222_344, zs_222_345, zs_222_348, zs_222_351, zs_222_354, zs_222_355, zs_222_357, zs_222_360, zs_222_361, zs_222_363, zs_222_364, zs_222_367, zs_222_370, zs_222_371, zs_222_372, zs_222_373, zs_222_374, zs_222_375, zs_222_377, zs_222_380, zs_222_382, h1, w3h, zmf_6, zmf_7, zmf_11, yup_eq, a1, a2, a3, a4, zrc_13v, e2, e_205, yar_o gk, n1, n2, nI_1', zMd_rc w2, e3, zMd_rc w3, e4, zbk_v, zts_s, zts_n, ↓reduceIte]
        rw [e6, e5, show pre.length + 1 + ysz l + ysz r = pre.length + (ysz l + ysz r + 1) by omega]
        rfl
      · rw [show ysim (.inner z k 0 l r) = ysp k (ysim l) (ysim r) from by
          show (if k = nI 110 then ysn (ysim l) else if yis k = true then ysp k (ysim l) (ysim r) else ymk k 0 .leaf .leaf) = _
          rw [if_neg (yis_n110 gk), if_pos gk]]
        exact w5
end ZFI

theorem zw_2_43 : zswp (zP.2.2.2.1 2) 162 (nI 43) = 162 := by decide +kernel
theorem zw_2_45 : zswp (zP.2.2.2.1 2) 162 (nI 45) = 162 := by decide +kernel
theorem ysz_yder0 {c : Int32} : ∀ t : yT, ytw t = true → 0 < ysz (yder c t) := fun t ht => ytw_sz (ytw_yder t ht)
section ZFJ
variable {sv : Nat → Value} {d : Nat} {m : Nat} {F : Nat → Int32}
theorem e_217l {t : yT} {pre post qs : yP} (ht : ytw t = true) (h7 : qs.length + ysz t ≤ 700) : ∀ n j (h : zH), j + n = ysz t → zLst h (m + 5) (m + 6) (pre ++ ypr t ++ post) → zMd h m F (qs ++ (ypr t).take j) → ∃ h', zrun zP sv (zcall zP sv (d + 2)) 217 8 [.val (.ref m), .val (.int (nI pre.length)), .val (.int (nI (pre.length + ysz t))), .val (.int (nI (pre.length + j)))] [] h = some (.inl (some (.int (nI (pre.length + ysz t)))), h') ∧ zMd h' m F (qs ++ ypr t) ∧ zfm m h h' := by
  intro n
  induction n with
  | zero =>
    intro j h hj hl hm
    obtain rfl : j = ysz t := by omega
    rw [← ypr_len t, List.take_length] at hm
    refine ⟨h, ?_, hm, zfm_rfl⟩
    simp only [zs_217_0, zs_217_1, zs_217_2, zs_217_5, zs_217_6, zs_217_7, zs_217_8, zs_217_9, zs_217_10, zs_217_13, zs_217_14, zs_217_15, zs_217_18, zs_217_19, zs_217_20, zs_217_21, zs_217_24, zs_217_25, zs_217_26, zs_217_29, zs_217_32, zs_217_35, zs_217_36, Int32.lt_irrefl, ↓reduceIte]
  | succ n ih =>
    intro j h hj hl hm
    have hpl : (pre ++ ypr t ++ post).length ≤ 700 := by
      obtain ⟨A, B, _, _, _, _, _, _, a7⟩ := hl
      exact a7
    rw [List.length_append, List.length_append, ypr_len] at hpl
    obtain ⟨x, hx⟩ : ∃ x, (ypr t)[j]? = some x := ⟨_, List.getElem?_eq_getElem (by rw [ypr_len]; omega)⟩
    have hi : (pre ++ ypr t ++ post)[pre.length + j]? = some (x.1, x.2) := by
      rw [List.append_assoc, List.getElem?_append_right (by omega), show pre.length + j - pre.length = j by omega, List.getElem?_append_left (by rw [ypr_len]; omega)]
      exact hx
    obtain ⟨A, B, a1, a2, a3, a4, a5⟩ := e_look hl hi
    have h1 := hm.1
    unfold zMo at h1
    have hlen : (qs ++ (ypr t).take j).length = qs.length + j := by rw [List.length_append, List.length_take, ypr_len]; omega
    obtain ⟨h2, e2, w2, f2⟩ := e_216 (sv := sv) (d := d + 1) (k := x.1) (v := x.2) hm (by omega) (ynk_ypr t (Or.inr ht) x (List.mem_of_getElem? hx))
    have w3 : zMd h2 m F (qs ++ (ypr t).take (j + 1)) := by
      rw [List.take_add_one, hx, ← List.append_assoc]
      exact w2
    obtain ⟨h3, e3, w4, f3⟩ := ih (j + 1) h2 (by omega) (zLst_fm hl f2) w3
    refine ⟨h3, ?_, w4, zfm_tr f2 f3⟩
    have g1 : nI (pre.length + j) < nI (pre.length + ysz t) := nI_lt (by omega) (by omega)
    simp (disch := exact znw_i) only [zs_217_0, zs_217_1, zs_217_2, zs_217_5, zs_217_6, zs_217_7, zs_217_8, zs_217_9, zs_217_10, zs_217_13, zs_217_14, zs_217_15, zs_217_18, zs_217_19, zs_217_20, zs_217_21, zs_217_24, zs_217_25, zs_217_26, zs_217_29, zs_217_35, zs_217_36, if_pos g1, h1, zmf_6, zmf_7, a1, a2, a3, a4, zrc_13v, e2, nI_1', zbk_v, zts_n]
    rw [zs_217_32]
    exact e3
theorem e_217 {t : yT} {pre post qs : yP} {h : zH} (ht : ytw t = true) (h7 : qs.length + ysz t ≤ 700) (hl : zLst h (m + 5) (m + 6) (pre ++ ypr t ++ post)) (hm : zMd h m F qs) : ∃ h', zcall zP sv (d + 3) 217 [.ref m, .int (nI pre.length)] h = some (.inl (some (.int (nI (pre.length + ysz t)))), h') ∧ zMd h' m F (qs ++ ypr t) ∧ zfm m h h' := by
  have e1 := e_209 (sv := sv) (d := d) hm.1 ht hl
  obtain ⟨h', e2, w2, f2⟩ := e_217l (sv := sv) (d := d) (pre := pre) (post := post) (qs := qs) ht h7 (ysz t) 0 h (Nat.zero_add _) hl (by rw [List.take_zero, List.append_nil]; exact hm)
  refine ⟨h', ?_, w2, f2⟩
  rw [Nat.add_zero] at e2
  rw [zc_217]
  simp (disch := exact znw_u) only [zs_217_0, zs_217_1, zs_217_2, zs_217_5, zs_217_6, zs_217_7, zs_217_9, zs_217_10, zs_217_13, zs_217_14, zs_217_15, zs_217_18, zs_217_19, zs_217_20, zs_217_21, zs_217_24, zs_217_25, zs_217_26, zs_217_29, zs_217_32, zs_217_35, zs_217_36, zMd_rc hm, e1, zbk_v, zts_s]
  exact e2
theorem e_224 {c : Int32} : ∀ (t : yT), ytw t = true → ∀ (D : Nat) (pre post qs : yP) (h : zH), ydp t + 4 ≤ D → zLst h (m + 5) (m + 6) (pre ++ ypr t ++ post) → zMd h m F qs → qs.length + ysz (yder c t) ≤ 700 → ∃ h', zcall zP sv D 224 [.ref m, .int (nI pre.length), .int (c - nI 97)] h = some (.inl (some (.int (nI (pre.length + ysz t)))), h') ∧ zMd h' m F (qs ++ ypr (yder c t)) ∧ zfm m h h'
  | .leaf, ht => by cases ht
  | .inner z k v l r, ht => by
    intro D pre post qs h hD hl hm h7
    obtain ⟨d, rfl⟩ : ∃ d, D = d + 4 := ⟨D - 4, by omega⟩
    have hD' : max (ydp l) (ydp r) + 1 + 4 ≤ d + 4 := hD
    have m1 := Nat.le_max_left (ydp l) (ydp r)
    have m2 := Nat.le_max_right (ydp l) (ydp r)
    have e0 : pre ++ ypr (.inner z k v l r) ++ post = pre ++ (k, yva k v) :: (ypr l ++ ypr r ++ post) := by
      show pre ++ (k, yva k v) :: (ypr l ++ ypr r) ++ post = _
      rw [List.append_assoc]; rfl
    have hi : (pre ++ (k, yva k v) :: (ypr l ++ ypr r ++ post))[pre.length]? = some (k, yva k v) := by
      rw [List.getElem?_append_right (Nat.le_refl _), Nat.sub_self]; rfl
    rw [e0] at hl
    obtain ⟨A, B, a1, a2, a3, a4, a5⟩ := e_look hl hi
    have h1 := hm.1
    unfold zMo at h1
    have ea : pre ++ (k, yva k v) :: (ypr l ++ ypr r ++ post) = (pre ++ [(k, yva k v)]) ++ ypr l ++ (ypr r ++ post) := by
      rw [List.append_assoc, List.append_assoc, List.append_assoc]; rfl
    have eb : pre ++ (k, yva k v) :: (ypr l ++ ypr r ++ post) = (pre ++ [(k, yva k v)] ++ ypr l) ++ ypr r ++ post := by
      rw [ea]
      simp only [List.append_assoc]
    have l1 : (pre ++ [(k, yva k v)]).length = pre.length + 1 := List.length_append
    have l2 : (pre ++ [(k, yva k v)] ++ ypr l).length = pre.length + 1 + ysz l := by rw [List.length_append, l1, ypr_len]
    have hyd : yder c (.inner z k v l r) = (if k = nI 110 then ymk (nI 110) 0 (yder c l) .leaf else if k = nI 43 ∨ k = nI 45 then ymk k 0 (yder c l) (yder c r) else if k = nI 42 then ymk (nI 43) 0 (ymk (nI 42) 0 (yder c l) r) (ymk (nI 42) 0 l (yder c r)) else ycn (if k = nI 118 ∧ v = c then nI 1 else 0)) := rfl
    have zc9 : ¬ (nI 99 : Int32) = nI 118 := by decide +kernel
    rcases ytw_el ht with g | g | g | g
    · obtain ⟨g1, g2, g3⟩ := g
      subst g1 g2 g3
      rw [hyd, if_neg (by decide +kernel), if_neg (by decide +kernel), if_neg (by decide +kernel), if_neg (fun q => zc9 q.1)] at h7 ⊢
      obtain ⟨h2, e2, w2, f2⟩ := e_216 (sv := sv) (d := d + 2) (k := nI 99) (v := 0) hm (by rw [ysz_cn] at h7; omega) ynr_99
      rw [ypr_cn]
      refine ⟨h2, ?_, w2, f2⟩
      rw [zc_224]
      simp only [zs_224_0, zs_224_1, zs_224_4, zs_224_5, h1, zmf_6, a1, a3, zs_224_0, zs_224_1, zs_224_4, zs_224_5, zs_224_6, zs_224_48, zs_224_49, zs_224_51, zs_224_52, zs_224_55, zs_224_56, zs_224_57, zs_224_59, zs_224_62, zs_224_63, zs_224_66, zs_224_67, zs_224_68, zs_224_69, zs_224_72, zs_224_73, zs_224_76, zs_224_77, zs_224_80, zs_224_81, zs_224_82, zs_224_83, zs_224_84, zs_224_85, zs_224_87, zs_224_88, zs_224_91, zs_224_92, zs_224_93, zs_224_94, zs_224_95, zs_224_96, zs_224_99, zs_224_100, zs_224_101, zs_224_102, zs_224_103, zs_224_104, zs_224_107, zs_224_108, zs_224_109, zs_224_111, zs_224_112, zs_224_115, zs_224_116, zs_224_118, zs_224_119, zs_224_122, zs_224_123, zs_224_124, zs_224_125, zs_224_126, zs_224_127, zs_224_130, zs_224_132, zs_224_133, zs_224_134, zs_224_137, zs_224_139, zs_224_140, zs_224_142, zs_224_143, zs_224_146, zs_224_147, zs_224_148, zs_224_149, zs_224_150, zs_224_153, zs_224_155, zs_224_156, zs_224_157, zs_224_158, zs_224_161, zs_224_162, zs_224_163, zs_224_164, zs_224_167, zs_224_168, zs_224_169, zs_224_170, zs_224_173, zs_224_174, zs_224_175, zs_224_176, zs_224_177, zs_224_178, zs_224_179, zs_224_182, zs_224_183, zs_224_186, zw_2_99, if_neg zc9, zrc_13v, e2, nI_1', zbk_v, zts_n]
      rfl
    · obtain ⟨g1, g4, g2, g3⟩ := g
      subst g1 g2 g3
      rw [hyd, if_neg (by decide +kernel), if_neg (by decide +kernel), if_neg (by decide +kernel)] at h7 ⊢
      have hv : yva (nI 118) v = v - nI 97 := if_pos rfl
      rw [hv] at a4
      by_cases hc : v = c
      · rw [if_pos ⟨rfl, hc⟩] at h7 ⊢
        subst hc
        obtain ⟨h2, e2, w2, f2⟩ := e_216 (sv := sv) (d := d + 2) (k := nI 99) (v := nI 1) hm (by rw [ysz_cn] at h7; omega) ynr_99
        rw [ypr_cn]
        refine ⟨h2, ?_, w2, f2⟩
        rw [zc_224]
        simp only [zs_224_0, zs_224_1, zs_224_4, zs_224_5, zs_224_6, zs_224_48, zs_224_49, zs_224_51, zs_224_52, zs_224_55, zs_224_56, zs_224_57, zs_224_59, zs_224_62, zs_224_63, zs_224_66, zs_224_67, zs_224_68, zs_224_69, zs_224_72, zs_224_73, zs_224_76, zs_224_77, zs_224_80, zs_224_81, zs_224_82, zs_224_83, zs_224_84, zs_224_85, zs_224_87, zs_224_88, zs_224_91, zs_224_92, zs_224_93, zs_224_94, zs_224_95, zs_224_96, zs_224_99, zs_224_100, zs_224_101, zs_224_102, zs_224_103, zs_224_104, zs_224_107, zs_224_108, zs_224_109, zs_224_111, zs_224_112, zs_224_115, zs_224_116, zs_224_118, zs_224_119, zs_224_122, zs_224_123, zs_224_124, zs_224_125, zs_224_126, zs_224_127, zs_224_130, zs_224_132, zs_224_133, zs_224_134, zs_224_137, zs_224_139, zs_224_140, zs_224_142, zs_224_143, zs_224_146, zs_224_147, zs_224_148, zs_224_149, zs_224_150, zs_224_153, zs_224_155, zs_224_156, zs_224_157, zs_224_158, zs_224_161, zs_224_162, zs_224_163, zs_224_164, zs_224_167, zs_224_168, zs_224_169, zs_224_170, zs_224_173, zs_224_174, zs_224_175, zs_224_176, zs_224_177, zs_224_178, zs_224_179, zs_224_182, zs_224_183, zs_224_186, h1, zmf_6, zmf_7, a1, a2, a3, a4, zw_2_118, zrc_13v, e2, nI_1', zbk_v, zts_n, ↓reduceIte]
        rfl
      · have hc2 : ¬ v - nI 97 = c - nI 97 := fun q => hc (by
          have := congrArg (fun x => x + nI 97) q
          simp only [Int32.sub_add_cancel] at this
          exact this)
        rw [if_neg (fun q => hc q.2)] at h7 ⊢
        obtain ⟨h2, e2, w2, f2⟩ := e_216 (sv := sv) (d := d + 2) (k := nI 99) (v := 0) hm (by rw [ysz_cn] at h7; omega) ynr_99
        rw [ypr_cn]
        refine ⟨h2, ?_, w2, f2⟩
        rw [zc_224]
        simp only [zs_224_0, zs_224_1, zs_224_4, zs_224_5, zs_224_6, zs_224_48, zs_224_49, zs_224_51, zs_224_52, zs_224_55, zs_224_56, zs_224_57, zs_224_59, zs_224_62, zs_224_63, zs_224_66, zs_224_67, zs_224_68, zs_224_69, zs_224_72, zs_224_73, zs_224_76, zs_224_77, zs_224_80, zs_224_81, zs_224_82, zs_224_83, zs_224_84, zs_224_85, zs_224_87, zs_224_88, zs_224_91, zs_224_92, zs_224_93, zs_224_94, zs_224_95, zs_224_96, zs_224_99, zs_224_100, zs_224_101, zs_224_102, zs_224_103, zs_224_104, zs_224_107, zs_224_108, zs_224_109, zs_224_111, zs_224_112, zs_224_115, zs_224_116, zs_224_118, zs_224_119, zs_224_122, zs_224_123, zs_224_124, zs_224_125, zs_224_126, zs_224_127, zs_224_130, zs_224_132, zs_224_133, zs_224_134, zs_224_137, zs_224_139, zs_224_140, zs_224_142, zs_224_143, zs_224_146, zs_224_147, zs_224_148, zs_224_149, zs_224_150, zs_224_153, zs_224_155, zs_224_156, zs_224_157, zs_224_158, zs_224_161, zs_224_162, zs_224_163, zs_224_164, zs_224_167, zs_224_168, zs_224_169, zs_224_170, zs_224_173, zs_224_174, zs_224_175, zs_224_176, zs_224_177, zs_224_178, zs_224_179, zs_224_182, zs_224_183, zs_224_186, h1, zmf_6, zmf_7, a1, a2, a3, a4, zw_2_118, if_neg hc2, zrc_13v, e2, nI_1', zbk_v, zts_n, ↓reduceIte]
        rfl
    · obtain ⟨g1, gv, g2, g3⟩ := g
      subst g1 gv g3
      rw [hyd, if_pos rfl] at h7 ⊢
      have h7' : qs.length + (ysz (yder c l) + 0 + 1) ≤ 700 := h7
      obtain ⟨h2, e2, w2, f2⟩ := e_216 (sv := sv) (d := d + 2) (k := nI 110) (v := 0) hm (by omega) ynr_110
      have hl2 := zLst_fm hl f2
      rw [ea] at hl2
      have lq : (qs ++ [(nI 110, (0 : Int32))]).length = qs.length + 1 := List.length_append
      obtain ⟨h3, e3, w3, f3⟩ := e_224 (c := c) l g2 (d + 3) _ _ _ h2 (by omega) hl2 w2 (by rw [lq]; omega)
      rw [l1] at e3
      refine ⟨h3, ?_, ?_, zfm_tr f2 f3⟩
      · rw [zc_224]
        simp only [zs_224_0, zs_224_1, zs_224_4, zs_224_5, zs_224_6, zs_224_48, zs_224_49, zs_224_51, zs_224_52, zs_224_55, zs_224_56, zs_224_57, zs_224_59, zs_224_62, zs_224_63, zs_224_66, zs_224_67, zs_224_68, zs_224_69, zs_224_72, zs_224_73, zs_224_76, zs_224_77, zs_224_80, zs_224_81, zs_224_82, zs_224_83, zs_224_84, zs_224_85, zs_224_87, zs_224_88, zs_224_91, zs_224_92, zs_224_93, zs_224_94, zs_224_95, zs_224_96, zs_224_99, zs_224_100, zs_224_101, zs_224_102, zs_224_103, zs_224_104, zs_224_107, zs_224_108, zs_224_109, zs_224_111, zs_224_112, zs_224_115, zs_224_116, zs_224_118, zs_224_119, zs_224_122, zs_224_123, zs_224_124, zs_224_125, zs_224_126, zs_224_127, zs_224_130, zs_224_132, zs_224_133, zs_224_134, zs_224_137, zs_224_139, zs_224_140, zs_224_142, zs_224_143, zs_224_146, zs_224_147, zs_224_148, zs_224_149, zs_224_150, zs_224_153, zs_224_155, zs_224_156, zs_224_157, zs_224_158, zs_224_161, zs_224_162, zs_224_163, zs_224_164, zs_224_167, zs_224_168, zs_224_169, zs_224_170, zs_224_173, zs_224_174, zs_224_175, zs_224_176, zs_224_177, zs_224_178, zs_224_179, zs_224_182, zs_224_183, zs_224_186, h1, zmf_6, a1, a3, zw_2_110, zrc_13v, e2, zMd_rc w2, nI_1', e3, zbk_v, zts_s, zts_n]
        rw [show pre.length + 1 + ysz l = pre.length + (ysz l + 0 + 1) by omega]
        rfl
      · rw [ypr_mk, yva_110, show ypr (.leaf : yT) = [] from rfl, List.append_nil]
        rw [List.append_assoc] at w3
        exact w3
    · obtain ⟨gk, gv, g2, g3⟩ := g
      subst gv
      rw [hyd, if_neg (yis_n110 gk)] at h7 ⊢
      by_cases hpm : k = nI 43 ∨ k = nI 45
      · rw [if_pos hpm] at h7 ⊢
        have h7' : qs.length + (ysz (yder c l) + ysz (yder c r) + 1) ≤ 700 := h7
        obtain ⟨h2, e2, w2, f2⟩ := e_216 (sv := sv) (d := d + 2) (k := k) (v := 0) hm (by omega) (ynr_o gk)
        have hl2 := zLst_fm hl f2
        have hl2' := hl2
        rw [ea] at hl2
        have lq : (qs ++ [(k, (0 : Int32))]).length = qs.length + 1 := List.length_append
        obtain ⟨h3, e3, w3, f3⟩ := e_224 (c := c) l g2 (d + 3) _ _ _ h2 (by omega) hl2 w2 (by rw [lq]; omega)
        rw [l1] at e3
        have hl3 := zLst_fm hl2' f3
        rw [eb] at hl3
        obtain ⟨h4, e4, w4, f4⟩ := e_224 (c := c) r g3 (d + 3) _ _ _ h3 (by omega) hl3 w3 (by rw [List.length_append, lq, ypr_len]; omega)
        rw [l2] at e4
        refine ⟨h4, ?_, ?_, zfm_tr (zfm_tr f2 f3) f4⟩
        · have hsw : zswp (zP.2.2.2.1 2) 162 k = 162 := by
            rcases hpm with q | q <;> rw [q]
            · exact zw_2_43
            · exact zw_2_45
          rw [zc_224]
          simp only [zs_224_0, zs_224_1, zs_224_4, zs_224_5, zs_224_6, zs_224_48, zs_224_49, zs_224_51, zs_224_52, zs_224_55, zs_224_56, zs_224_57, zs_224_59, zs_224_62, zs_224_63, zs_224_66, zs_224_67, zs_224_68, zs_224_69, zs_224_72, zs_224_73, zs_224_76, zs_224_77, zs_224_80, zs_224_81, zs_224_82, zs_224_83, zs_224_84, zs_224_85, zs_224_87, zs_224_88, zs_224_91, zs_224_92, zs_224_93, zs_224_94, zs_224_95, zs_224_96, zs_224_99, zs_224_100, zs_224_101, zs_224_102, zs_224_103, zs_224_104, zs_224_107, zs_224_108, zs_224_109, zs_224_111, zs_224_112, zs_224_115, zs_224_116, zs_224_118, zs_224_119, zs_224_122, zs_224_123, zs_224_124, zs_224_125, zs_224_126, zs_224_127, zs_224_130, zs_224_132, zs_224_133, zs_224_134, zs_224_137, zs_224_139, zs_224_140, zs_224_142, zs_224_143, zs_224_146, zs_224_147, zs_224_148, zs_224_149, zs_224_150, zs_224_153, zs_224_155, zs_224_156, zs_224_157, zs_224_158, zs_224_161, zs_224_162, zs_224_163, zs_224_164, zs_224_167, zs_224_168, zs_224_169, zs_224_170, zs_224_173, zs_224_174, zs_224_175, zs_224_176, zs_224_177, zs_224_178, zs_224_179, zs_224_182, zs_224_183, zs_224_186, h1, zmf_6, a1, a3, hsw, zrc_13v, e2, zMd_rc w2, zMd_rc w3, nI_1', e3, e4, zbk_v, zts_s, zts_n]
          rw [show pre.length + 1 + ysz l + ysz r = pre.length + (ysz l + ysz r + 1) by omega]
          rfl
        · rw [ypr_mk, yva_o gk]
          rw [List.append_assoc, List.append_assoc] at w4
          exact w4
      · rw [if_neg hpm] at h7 ⊢
        have hk : k = nI 42 := by
          rcases yis_k gk with q | q | q
          · exact absurd (Or.inl q) hpm
          · exact absurd (Or.inr q) hpm
          · exact q
        subst hk
        rw [if_pos rfl] at h7 ⊢
        have h7' : qs.length + ((ysz (yder c l) + ysz r + 1) + (ysz l + ysz (yder c r) + 1) + 1) ≤ 700 := h7
        have hla := hl
        rw [ea] at hla
        have e9 := e_209 (sv := sv) (d := d + 1) hm.1 g2 hla
        rw [l1] at e9
        obtain ⟨h2, e2, w2, f2⟩ := e_216 (sv := sv) (d := d + 2) (k := nI 43) (v := 0) hm (by omega) (by decide +kernel)
        have q2 : (qs ++ [(nI 43, (0 : Int32))]).length = qs.length + 1 := List.length_append
        obtain ⟨h3, e3, w3, f3⟩ := e_216 (sv := sv) (d := d + 2) (k := nI 42) (v := 0) w2 (by omega) (by decide +kernel)
        have q3 : (qs ++ [(nI 43, (0 : Int32))] ++ [(nI 42, 0)]).length = qs.length + 2 := by rw [List.length_append, q2]; rfl
        have f23 := zfm_tr f2 f3
        have hl3 := zLst_fm hl f23
        rw [ea] at hl3
        obtain ⟨h4, e4, w4, f4⟩ := e_224 (c := c) l g2 (d + 3) _ _ _ h3 (by omega) hl3 w3 (by rw [q3]; omega)
        rw [l1] at e4
        have q4 : (qs ++ [(nI 43, (0 : Int32))] ++ [(nI 42, 0)] ++ ypr (yder c l)).length = qs.length + 2 + ysz (yder c l) := by rw [List.length_append, q3, ypr_len]
        have f24 := zfm_tr f23 f4
        have hl4 := zLst_fm hl f24
        rw [eb] at hl4
        obtain ⟨h5, e5, w5, f5⟩ := e_217 (sv := sv) (d := d) g3 (by rw [q4]; omega) hl4 w4
        rw [l2] at e5
        have q5 : (qs ++ [(nI 43, (0 : Int32))] ++ [(nI 42, 0)] ++ ypr (yder c l) ++ ypr r).length = qs.length + 2 + ysz (yder c l) + ysz r := by rw [List.length_append, q4, ypr_len]
        obtain ⟨h6, e6, w6, f6⟩ := e_216 (sv := sv) (d := d + 2) (k := nI 42) (v := 0) w5 (by omega) (by decide +kernel)
        have q6 : (qs ++ [(nI 43, (0 : Int32))] ++ [(nI 42, 0)] ++ ypr (yder c l) ++ ypr r ++ [(nI 42, 0)]).length = qs.length + 2 + ysz (yder c l) + ysz r + 1 := by rw [List.length_append, q5]; rfl
        have f26 := zfm_tr (zfm_tr f24 f5) f6
        have hl6 := zLst_fm hl f26
        have hl6' := hl6
        rw [ea] at hl6
        obtain ⟨h7x, e7, w7, f7⟩ := e_217 (sv := sv) (d := d) g2 (by rw [q6]; omega) hl6 w6
        rw [l1] at e7
        have hl7 := zLst_fm hl6' f7
        rw [eb] at hl7
        obtain ⟨h8, e8, w8, f8⟩ := e_224 (c := c) r g3 (d + 3) _ _ _ h7x (by omega) hl7 w7 (by rw [List.length_append, q6, ypr_len]; omega)
        rw [l2] at e8
        refine ⟨h8, ?_, ?_, zfm_tr (zfm_tr f26 f7) f8⟩
        · rw [zc_224]
          simp (disch := first | exact znw_u | exact znw_i) only [zs_224_0, zs_224_1, zs_224_4, zs_224_5, zs_224_6, zs_224_48, zs_224_49, zs_224_51, zs_224_52, zs_224_55, zs_224_56, zs_224_57, zs_224_59, zs_224_62, zs_224_63, zs_224_66, zs_224_67, zs_224_68, zs_224_69, zs_224_72, zs_224_73, zs_224_76, zs_224_77, zs_224_80, zs_224_81, zs_224_82, zs_224_83, zs_224_84, zs_224_85, zs_224_87, zs_224_88, zs_224_91, zs_224_92, zs_224_93, zs_224_94, zs_224_95, zs_224_96, zs_224_99, zs_224_100, zs_224_101, zs_224_102, zs_224_103, zs_224_104, zs_224_107, zs_224_108, zs_224_109, zs_224_111, zs_224_112, zs_224_115, zs_224_116, zs_224_118, zs_224_119, zs_224_122, zs_224_123, zs_224_124, zs_224_125, zs_224_126, zs_224_127, zs_224_130, zs_224_132, zs_224_133, zs_224_134, zs_224_137, zs_224_139, zs_224_140, zs_224_142, zs_224_143, zs_224_146, zs_224_147, zs_224_148, zs_224_149, zs_224_150, zs_224_153, zs_224_155, zs_224_156, zs_224_157, zs_224_158, zs_224_161, zs_224_162, zs_224_163, zs_224_164, zs_224_167, zs_224_168, zs_224_169, zs_224_170, zs_224_173, zs_224_174, zs_224_175, zs_224_176, zs_224_177, zs_224_178, zs_224_179, zs_224_182, zs_224_183, zs_224_186, h1, zmf_6, a1, a3, zw_2_42, zrc_13v, nI_1', e9, e2, e3, zMd_rc w2, zMd_rc w3, e4, zMd_rc w4, e5, zMd_rc w5, e6, zMd_rc w6, e7, zMd_rc w7, e8, zbk_v, zts_s, zts_n]
          rw [show pre.length + 1 + ysz l + ysz r = pre.length + (ysz l + ysz r + 1) by omega]
          rfl
        · rw [ypr_mk, ypr_mk, ypr_mk, yva_o yis_43, yva_o yis_42]
          simp only [List.append_assoc, List.cons_append, List.nil_append] at w8 ⊢
          exact w8
end ZFJ

/-- what the model finds for a node: value (0), depth (1), degree (2), needed registers (3) -/
def ymf (w : Nat) (A : List Int32) (k v a b : Int32) : Int32 :=
  if k = nI 99 then (if w = 0 then v else if w = 2 then 0 else nI 1)
  else if k = nI 118 then (if w = 0 then yg A (nI 3 + (v - nI 97)) else nI 1)
  else if k = nI 110 then (if w = 0 then -a else if w = 1 then a + nI 1 else a)
  else (if w = 0 then yop k a b else if w = 1 then ymx a b + nI 1 else if w = 2 then (if k = nI 42 then a + b else ymx a b) else (if a = b then a + nI 1 else ymx a b))
theorem wne : ((nI 1 : Int32) = 0) = False ∧ ((nI 2 : Int32) = 0) = False ∧ ((nI 3 : Int32) = 0) = False ∧ ((nI 2 : Int32) = nI 1) = False ∧ ((nI 3 : Int32) = nI 1) = False ∧ ((nI 3 : Int32) = nI 2) = False ∧ ((nI 1 : Int32) = nI 2) = False := by decide +kernel
theorem zw_1_43 : zswp (zP.2.2.2.1 1) 108 (nI 43) = 108 := by decide +kernel
theorem zw_1_45 : zswp (zP.2.2.2.1 1) 108 (nI 45) = 108 := by decide +kernel
theorem zw_1_42 : zswp (zP.2.2.2.1 1) 108 (nI 42) = 108 := by decide +kernel
theorem zw_1_o {k : Int32} (hk : yis k = true) : zswp (zP.2.2.2.1 1) 108 k = 108 := by
  rcases yis_k hk with g | g | g <;> rw [g]
  · exact zw_1_43
  · exact zw_1_45
  · exact zw_1_42
/-- what holds at a node of a well-formed term -/
def yok1 (k v : Int32) : Prop := k = nI 99 ∨ (k = nI 118 ∧ ylet v = true) ∨ k = nI 110 ∨ yis k = true
section ZFK
variable {sv : Nat → Value} {d : Nat} {h : zH} {m : Nat} {F : Nat → Int32} {ps : yP}
theorem e_212 {i w : Nat} {k v a b : Int32} {N : List Int32} (hm : zMo h m F) (hl : zLst h (m + 5) (m + 6) ps) (hN : h.1 (m + 1) = (20, N.map Value.int)) (hNl : N.length = 387) (hi : ps[i]? = some (k, yva k v)) (hk : yok1 k v) (hw : w < 4) : zcall zP sv (d + 2) 212 [.ref m, .int (nI i), .int (nI w), .int a, .int b] h = some (.inl (some (.int (ymf w N k v a b))), h) := by
  obtain ⟨A, B, a1, a2, a3, a4, a5⟩ := e_look hl hi
  unfold zMo at hm
  obtain ⟨w1, w2, w3, w4, w5, w6, w7⟩ := wne
  have n1 : ¬ (nI 118 : Int32) = nI 99 := by decide +kernel
  have n2 : ¬ (nI 110 : Int32) = nI 99 := by decide +kernel
  have n3 : ¬ (nI 110 : Int32) = nI 118 := by decide +kernel
  unfold ymf
  rcases (show w = 0 ∨ w = 1 ∨ w = 2 ∨ w = 3 by omega) with rfl | rfl | rfl | rfl
  all_goals rcases hk with g | g | g | g
  · subst g
    rw [if_pos rfl, if_pos rfl]
    rw [yva_99] at a4
    rw [nI_0]
    simp only [zc_212, zs_212_0, zs_212_1, zs_212_4, zs_212_5, zs_212_6, zs_212_40, zs_212_41, zs_212_44, zs_212_45, zs_212_48, zs_212_49, zs_212_50, zs_212_53, zs_212_54, zs_212_55, zs_212_58, zs_212_59, zs_212_62, zs_212_63, zs_212_64, zs_212_65, zs_212_68, zs_212_69, zs_212_72, zs_212_73, zs_212_74, zs_212_77, zs_212_78, zs_212_79, zs_212_80, zs_212_81, zs_212_84, zs_212_85, zs_212_86, zs_212_87, zs_212_90, zs_212_91, zs_212_92, zs_212_95, zs_212_96, zs_212_97, zs_212_100, zs_212_101, zs_212_102, zs_212_103, zs_212_106, zs_212_107, zs_212_108, zs_212_109, zs_212_112, zs_212_113, zs_212_116, zs_212_117, zs_212_118, zs_212_119, zs_212_121, zs_212_124, zs_212_125, zs_212_126, zs_212_127, zs_212_130, zs_212_131, zs_212_133, zs_212_136, zs_212_137, zs_212_138, zs_212_139, zs_212_140, zs_212_141, zs_212_144, zs_212_145, zs_212_148, zs_212_149, zs_212_150, zs_212_152, zs_212_155, zs_212_156, zs_212_158, zs_212_159, zs_212_162, zs_212_163, zs_212_165, zs_212_168, zs_212_169, zs_212_170, zs_212_172, zs_212_175, zs_212_176, zs_212_177, zs_212_178, zs_212_181, zs_212_182, zs_212_184, zs_212_187, hm, zmf_6, zmf_7, a1, a2, a3, a4, zw_1_99, ↓reduceIte]
  · obtain ⟨g, gl⟩ := g
    subst g
    rw [if_neg n1, if_pos rfl, if_pos rfl]
    have hv : yva (nI 118) v = v - nI 97 := if_pos rfl
    rw [hv] at a4
    rw [nI_0]
    obtain ⟨j, hj, rfl⟩ := zvar_of (ylet_r gl).1 (ylet_r gl).2
    have e1 : nI 3 + (nI (97 + j) - nI 97) = nI (3 + j) := by rw [nI_sub', nI_add]
    have e2 : ∀ Kv, zael (20, N.map Value.int) 20 (nI (3 + j)) Kv = Kv (.int (N.getD (3 + j) 0)) := fun Kv => zgI (by omega) (by omega)
    rw [e1, yg_k (by omega)]
    simp only [zc_212, zs_212_0, zs_212_1, zs_212_4, zs_212_5, zs_212_6, zs_212_40, zs_212_41, zs_212_44, zs_212_45, zs_212_48, zs_212_49, zs_212_50, zs_212_53, zs_212_54, zs_212_55, zs_212_58, zs_212_59, zs_212_62, zs_212_63, zs_212_64, zs_212_65, zs_212_68, zs_212_69, zs_212_72, zs_212_73, zs_212_74, zs_212_77, zs_212_78, zs_212_79, zs_212_80, zs_212_81, zs_212_84, zs_212_85, zs_212_86, zs_212_87, zs_212_90, zs_212_91, zs_212_92, zs_212_95, zs_212_96, zs_212_97, zs_212_100, zs_212_101, zs_212_102, zs_212_103, zs_212_106, zs_212_107, zs_212_108, zs_212_109, zs_212_112, zs_212_113, zs_212_116, zs_212_117, zs_212_118, zs_212_119, zs_212_121, zs_212_124, zs_212_125, zs_212_126, zs_212_127, zs_212_130, zs_212_131, zs_212_133, zs_212_136, zs_212_137, zs_212_138, zs_212_139, zs_212_140, zs_212_141, zs_212_144, zs_212_145, zs_212_148, zs_212_149, zs_212_150, zs_212_152, zs_212_155, zs_212_156, zs_212_158, zs_212_159, zs_212_162, zs_212_163, zs_212_165, zs_212_168, zs_212_169, zs_212_170, zs_212_172, zs_212_175, zs_212_176, zs_212_177, zs_212_178, zs_212_181, zs_212_182, zs_212_184, zs_212_187, hm, zmf_0, zmf_6, zmf_7, a1, a2, a3, a4, zw_1_118, hN, e1, e2, ↓reduceIte]
  · subst g
    rw [if_neg n2, if_neg n3, if_pos rfl, if_pos rfl, nI_0]
    simp only [zc_212, zs_212_0, zs_212_1, zs_212_4, zs_212_5, zs_212_6, zs_212_40, zs_212_41, zs_212_44, zs_212_45, zs_212_48, zs_212_49, zs_212_50, zs_212_53, zs_212_54, zs_212_55, zs_212_58, zs_212_59, zs_212_62, zs_212_63, zs_212_64, zs_212_65, zs_212_68, zs_212_69, zs_212_72, zs_212_73, zs_212_74, zs_212_77, zs_212_78, zs_212_79, zs_212_80, zs_212_81, zs_212_84, zs_212_85, zs_212_86, zs_212_87, zs_212_90, zs_212_91, zs_212_92, zs_212_95, zs_212_96, zs_212_97, zs_212_100, zs_212_101, zs_212_102, zs_212_103, zs_212_106, zs_212_107, zs_212_108, zs_212_109, zs_212_112, zs_212_113, zs_212_116, zs_212_117, zs_212_118, zs_212_119, zs_212_121, zs_212_124, zs_212_125, zs_212_126, zs_212_127, zs_212_130, zs_212_131, zs_212_133, zs_212_136, zs_212_137, zs_212_138, zs_212_139, zs_212_140, zs_212_141, zs_212_144, zs_212_145, zs_212_148, zs_212_149, zs_212_150, zs_212_152, zs_212_155, zs_212_156, zs_212_158, zs_212_159, zs_212_162, zs_212_163, zs_212_165, zs_212_168, zs_212_169, zs_212_170, zs_212_172, zs_212_175, zs_212_176, zs_212_177, zs_212_178, zs_212_181, zs_212_182, zs_212_184, zs_212_187, hm, zmf_6, a1, a3, zw_1_110, ↓reduceIte]
  · rw [if_neg (fun q => by rw [q] at g; exact absurd g (by decide +kernel)), if_neg (fun q => by rw [q] at g; exact absurd g (by decide +kernel)), if_neg (yis_n110 g), if_pos rfl, nI_0]
    simp only [zc_212, zs_212_0, zs_212_1, zs_212_4, zs_212_5, zs_212_6, zs_212_40, zs_212_41, zs_212_44, zs_212_45, zs_212_48, zs_212_49, zs_212_50, zs_212_53, zs_212_54, zs_212_55, zs_212_58, zs_212_59, zs_212_62, zs_212_63, zs_212_64, zs_212_65, zs_212_68, zs_212_69, zs_212_72, zs_212_73, zs_212_74, zs_212_77, zs_212_78, zs_212_79, zs_212_80, zs_212_81, zs_212_84, zs_212_85, zs_212_86, zs_212_87, zs_212_90, zs_212_91, zs_212_92, zs_212_95, zs_212_96, zs_212_97, zs_212_100, zs_212_101, zs_212_102, zs_212_103, zs_212_106, zs_212_107, zs_212_108, zs_212_109, zs_212_112, zs_212_113, zs_212_116, zs_212_117, zs_212_118, zs_212_119, zs_212_121, zs_212_124, zs_212_125, zs_212_126, zs_212_127, zs_212_130, zs_212_131, zs_212_133, zs_212_136, zs_212_137, zs_212_138, zs_212_139, zs_212_140, zs_212_141, zs_212_144, zs_212_145, zs_212_148, zs_212_149, zs_212_150, zs_212_152, zs_212_155, zs_212_156, zs_212_158, zs_212_159, zs_212_162, zs_212_163, zs_212_165, zs_212_168, zs_212_169, zs_212_170, zs_212_172, zs_212_175, zs_212_176, zs_212_177, zs_212_178, zs_212_181, zs_212_182, zs_212_184, zs_212_187, hm, zmf_6, a1, a3, zw_1_o g, e_211 g, zbk_v, zts_s, ↓reduceIte]
  · subst g
    rw [if_pos rfl, if_neg (by decide), if_neg (by decide)]
    simp only [zc_212, zs_212_0, zs_212_1, zs_212_4, zs_212_5, zs_212_6, zs_212_40, zs_212_41, zs_212_44, zs_212_45, zs_212_48, zs_212_49, zs_212_50, zs_212_53, zs_212_54, zs_212_55, zs_212_58, zs_212_59, zs_212_62, zs_212_63, zs_212_64, zs_212_65, zs_212_68, zs_212_69, zs_212_72, zs_212_73, zs_212_74, zs_212_77, zs_212_78, zs_212_79, zs_212_80, zs_212_81, zs_212_84, zs_212_85, zs_212_86, zs_212_87, zs_212_90, zs_212_91, zs_212_92, zs_212_95, zs_212_96, zs_212_97, zs_212_100, zs_212_101, zs_212_102, zs_212_103, zs_212_106, zs_212_107, zs_212_108, zs_212_109, zs_212_112, zs_212_113, zs_212_116, zs_212_117, zs_212_118, zs_212_119, zs_212_121, zs_212_124, zs_212_125, zs_212_126, zs_212_127, zs_212_130, zs_212_131, zs_212_133, zs_212_136, zs_212_137, zs_212_138, zs_212_139, zs_212_140, zs_212_141, zs_212_144, zs_212_145, zs_212_148, zs_212_149, zs_212_150, zs_212_152, zs_212_155, zs_212_156, zs_212_158, zs_212_159, zs_212_162, zs_212_163, zs_212_165, zs_212_168, zs_212_169, zs_212_170, zs_212_172, zs_212_175, zs_212_176, zs_212_177, zs_212_178, zs_212_181, zs_212_182, zs_212_184, zs_212_187, hm, zmf_6, zmf_7, a1, a2, a3, zw_1_99, w1, w7, ↓reduceIte]
  · obtain ⟨g, gl⟩ := g
    subst g
    rw [if_neg n1, if_pos rfl, if_neg (by decide)]
    simp only [zc_212, zs_212_0, zs_212_1, zs_212_4, zs_212_5, zs_212_6, zs_212_40, zs_212_41, zs_212_44, zs_212_45, zs_212_48, zs_212_49, zs_212_50, zs_212_53, zs_212_54, zs_212_55, zs_212_58, zs_212_59, zs_212_62, zs_212_63, zs_212_64, zs_212_65, zs_212_68, zs_212_69, zs_212_72, zs_212_73, zs_212_74, zs_212_77, zs_212_78, zs_212_79, zs_212_80, zs_212_81, zs_212_84, zs_212_85, zs_212_86, zs_212_87, zs_212_90, zs_212_91, zs_212_92, zs_212_95, zs_212_96, zs_212_97, zs_212_100, zs_212_101, zs_212_102, zs_212_103, zs_212_106, zs_212_107, zs_212_108, zs_212_109, zs_212_112, zs_212_113, zs_212_116, zs_212_117, zs_212_118, zs_212_119, zs_212_121, zs_212_124, zs_212_125, zs_212_126, zs_212_127, zs_212_130, zs_212_131, zs_212_133, zs_212_136, zs_212_137, zs_212_138, zs_212_139, zs_212_140, zs_212_141, zs_212_144, zs_212_145, zs_212_148, zs_212_149, zs_212_150, zs_212_152, zs_212_155, zs_212_156, zs_212_158, zs_212_159, zs_212_162, zs_212_163, zs_212_165, zs_212_168, zs_212_169, zs_212_170, zs_212_172, zs_212_175, zs_212_176, zs_212_177, zs_212_178, zs_212_181, zs_212_182, zs_212_184, zs_212_187, hm, zmf_6, zmf_7, a1, a2, a3, zw_1_118, w1, w7, ↓reduceIte]
  · subst g
    rw [if_neg n2, if_neg n3, if_pos rfl, if_neg (by decide), if_pos rfl]
    simp only [zc_212, zs_212_0, zs_212_1, zs_212_4, zs_212_5, zs_212_6, zs_212_40, zs_212_41, zs_212_44, zs_212_45, zs_212_48, zs_212_49, zs_212_50, zs_212_53, zs_212_54, zs_212_55, zs_212_58, zs_212_59, zs_212_62, zs_212_63, zs_212_64, zs_212_65, zs_212_68, zs_212_69, zs_212_72, zs_212_73, zs_212_74, zs_212_77, zs_212_78, zs_212_79, zs_212_80, zs_212_81, zs_212_84, zs_212_85, zs_212_86, zs_212_87, zs_212_90, zs_212_91, zs_212_92, zs_212_95, zs_212_96, zs_212_97, zs_212_100, zs_212_101, zs_212_102, zs_212_103, zs_212_106, zs_212_107, zs_212_108, zs_212_109, zs_212_112, zs_212_113, zs_212_116, zs_212_117, zs_212_118, zs_212_119, zs_212_121, zs_212_124, zs_212_125, zs_212_126, zs_212_127, zs_212_130, zs_212_131, zs_212_133, zs_212_136, zs_212_137, zs_212_138, zs_212_139, zs_212_140, zs_212_141, zs_212_144, zs_212_145, zs_212_148, zs_212_149, zs_212_150, zs_212_152, zs_212_155, zs_212_156, zs_212_158, zs_212_159, zs_212_162, zs_212_163, zs_212_165, zs_212_168, zs_212_169, zs_212_170, zs_212_172, zs_212_175, zs_212_176, zs_212_177, zs_212_178, zs_212_181, zs_212_182, zs_212_184, zs_212_187, hm, zmf_6, a1, a3, zw_1_110, w1, w7, ↓reduceIte]
  · rw [if_neg (fun q => by rw [q] at g; exact absurd g (by decide +kernel)), if_neg (fun q => by rw [q] at g; exact absurd g (by decide +kernel)), if_neg (yis_n110 g), if_neg (by decide), if_pos rfl]
    unfold ymx
    simp only [zc_212, zs_212_0, zs_212_1, zs_212_4, zs_212_5, zs_212_6, zs_212_40, zs_212_41, zs_212_44, zs_212_45, zs_212_48, zs_212_49, zs_212_50, zs_212_53, zs_212_54, zs_212_55, zs_212_58, zs_212_59, zs_212_62, zs_212_63, zs_212_64, zs_212_65, zs_212_68, zs_212_69, zs_212_72, zs_212_73, zs_212_74, zs_212_77, zs_212_78, zs_212_79, zs_212_80, zs_212_81, zs_212_84, zs_212_85, zs_212_86, zs_212_87, zs_212_90, zs_212_91, zs_212_92, zs_212_95, zs_212_96, zs_212_97, zs_212_100, zs_212_101, zs_212_102, zs_212_103, zs_212_106, zs_212_107, zs_212_108, zs_212_109, zs_212_112, zs_212_113, zs_212_116, zs_212_117, zs_212_118, zs_212_119, zs_212_121, zs_212_124, zs_212_125, zs_212_126, zs_212_127, zs_212_130, zs_212_131, zs_212_133, zs_212_136, zs_212_137, zs_212_138, zs_212_139, zs_212_140, zs_212_141, zs_212_144, zs_212_145, zs_212_148, zs_212_149, zs_212_150, zs_212_152, zs_212_155, zs_212_156, zs_212_158, zs_212_159, zs_212_162, zs_212_163, zs_212_165, zs_212_168, zs_212_169, zs_212_170, zs_212_172, zs_212_175, zs_212_176, zs_212_177, zs_212_178, zs_212_181, zs_212_182, zs_212_184, zs_212_187, hm, zmf_6, a1, a3, zw_1_o g, w1, w7, ↓reduceIte]
  · subst g
    rw [if_pos rfl, if_neg (by decide), if_pos rfl]
    simp only [zc_212, zs_212_0, zs_212_1, zs_212_4, zs_212_5, zs_212_6, zs_212_40, zs_212_41, zs_212_44, zs_212_45, zs_212_48, zs_212_49, zs_212_50, zs_212_53, zs_212_54, zs_212_55, zs_212_58, zs_212_59, zs_212_62, zs_212_63, zs_212_64, zs_212_65, zs_212_68, zs_212_69, zs_212_72, zs_212_73, zs_212_74, zs_212_77, zs_212_78, zs_212_79, zs_212_80, zs_212_81, zs_212_84, zs_212_85, zs_212_86, zs_212_87, zs_212_90, zs_212_91, zs_212_92, zs_212_95, zs_212_96, zs_212_97, zs_212_100, zs_212_101, zs_212_102, zs_212_103, zs_212_106, zs_212_107, zs_212_108, zs_212_109, zs_212_112, zs_212_113, zs_212_116, zs_212_117, zs_212_118, zs_212_119, zs_212_121, zs_212_124, zs_212_125, zs_212_126, zs_212_127, zs_212_130, zs_212_131, zs_212_133, zs_212_136, zs_212_137, zs_212_138, zs_212_139, zs_212_140, zs_212_141, zs_212_144, zs_212_145, zs_212_148, zs_212_149, zs_212_150, zs_212_152, zs_212_155, zs_212_156, zs_212_158, zs_212_159, zs_212_162, zs_212_163, zs_212_165, zs_212_168, zs_212_169, zs_212_170, zs_212_172, zs_212_175, zs_212_176, zs_212_177, zs_212_178, zs_212_181, zs_212_182, zs_212_184, zs_212_187, hm, zmf_6, zmf_7, a1, a2, a3, zw_1_99, w2, w4, ↓reduceIte]
  · obtain ⟨g, gl⟩ := g
    subst g
    rw [if_neg n1, if_pos rfl, if_neg (by decide)]
    simp only [zc_212, zs_212_0, zs_212_1, zs_212_4, zs_212_5, zs_212_6, zs_212_40, zs_212_41, zs_212_44, zs_212_45, zs_212_48, zs_212_49, zs_212_50, zs_212_53, zs_212_54, zs_212_55, zs_212_58, zs_212_59, zs_212_62, zs_212_63, zs_212_64, zs_212_65, zs_212_68, zs_212_69, zs_212_72, zs_212_73, zs_212_74, zs_212_77, zs_212_78, zs_212_79, zs_212_80, zs_212_81, zs_212_84, zs_212_85, zs_212_86, zs_212_87, zs_212_90, zs_212_91, zs_212_92, zs_212_95, zs_212_96, zs_212_97, zs_212_100, zs_212_101, zs_212_102, zs_212_103, zs_212_106, zs_212_107, zs_212_108, zs_212_109, zs_212_112, zs_212_113, zs_212_116, zs_212_117, zs_212_118, zs_212_119, zs_212_121, zs_212_124, zs_212_125, zs_212_126, zs_212_127, zs_212_130, zs_212_131, zs_212_133, zs_212_136, zs_212_137, zs_212_138, zs_212_139, zs_212_140, zs_212_141, zs_212_144, zs_212_145, zs_212_148, zs_212_149, zs_212_150, zs_212_152, zs_212_155, zs_212_156, zs_212_158, zs_212_159, zs_212_162, zs_212_163, zs_212_165, zs_212_168, zs_212_169, zs_212_170, zs_212_172, zs_212_175, zs_212_176, zs_212_177, zs_212_178, zs_212_181, zs_212_182, zs_212_184, zs_212_187, hm, zmf_6, zmf_7, a1, a2, a3, zw_1_118, w2, w4, ↓reduceIte]
  · subst g
    rw [if_neg n2, if_neg n3, if_pos rfl, if_neg (by decide), if_neg (by decide)]
    simp only [zc_212, zs_212_0, zs_212_1, zs_212_4, zs_212_5, zs_212_6, zs_212_40, zs_212_41, zs_212_44, zs_212_45, zs_212_48, zs_212_49, zs_212_50, zs_212_53, zs_212_54, zs_212_55, zs_212_58, zs_212_59, zs_212_62, zs_212_63, zs_212_64, zs_212_65, zs_212_68, zs_212_69, zs_212_72, zs_212_73, zs_212_74, zs_212_77, zs_212_78, zs_212_79, zs_212_80, zs_212_81, zs_212_84, zs_212_85, zs_212_86, zs_212_87, zs_212_90, zs_212_91, zs_212_92, zs_212_95, zs_212_96, zs_212_97, zs_212_100, zs_212_101, zs_212_102, zs_212_103, zs_212_106, zs_212_107, zs_212_108, zs_212_109, zs_212_112, zs_212_113, zs_212_116, zs_212_117, zs_212_118, zs_212_119, zs_212_121, zs_212_124, zs_212_125, zs_212_126, zs_212_127, zs_212_130, zs_212_131, zs_212_133, zs_212_136, zs_212_137, zs_212_138, zs_212_139, zs_212_140, zs_212_141, zs_212_144, zs_212_145, zs_212_148, zs_212_149, zs_212_150, zs_212_152, zs_212_155, zs_212_156, zs_212_158, zs_212_159, zs_212_162, zs_212_163, zs_212_165, zs_212_168, zs_212_169, zs_212_170, zs_212_172, zs_212_175, zs_212_176, zs_212_177, zs_212_178, zs_212_181, zs_212_182, zs_212_184, zs_212_187, hm, zmf_6, a1, a3, zw_1_110, w2, w4, ↓reduceIte]
  · rw [if_neg (fun q => by rw [q] at g; exact absurd g (by decide +kernel)), if_neg (fun q => by rw [q] at g; exact absurd g (by decide +kernel)), if_neg (yis_n110 g), if_neg (by decide), if_neg (by decide), if_pos rfl]
    unfold ymx
    by_cases c : k = nI 42
    · rw [if_pos c]
      simp only [zc_212, zs_212_0, zs_212_1, zs_212_4, zs_212_5, zs_212_6, zs_212_40, zs_212_41, zs_212_44, zs_212_45, zs_212_48, zs_212_49, zs_212_50, zs_212_53, zs_212_54, zs_212_55, zs_212_58, zs_212_59, zs_212_62, zs_212_63, zs_212_64, zs_212_65, zs_212_68, zs_212_69, zs_212_72, zs_212_73, zs_212_74, zs_212_77, zs_212_78, zs_212_79, zs_212_80, zs_212_81, zs_212_84, zs_212_85, zs_212_86, zs_212_87, zs_212_90, zs_212_91, zs_212_92, zs_212_95, zs_212_96, zs_212_97, zs_212_100, zs_212_101, zs_212_102, zs_212_103, zs_212_106, zs_212_107, zs_212_108, zs_212_109, zs_212_112, zs_212_113, zs_212_116, zs_212_117, zs_212_118, zs_212_119, zs_212_121, zs_212_124, zs_212_125, zs_212_126, zs_212_127, zs_212_130, zs_212_131, zs_212_133, zs_212_136, zs_212_137, zs_212_138, zs_212_139, zs_212_140, zs_212_141, zs_212_144, zs_212_145, zs_212_148, zs_212_149, zs_212_150, zs_212_152, zs_212_155, zs_212_156, zs_212_158, zs_212_159, zs_212_162, zs_212_163, zs_212_165, zs_212_168, zs_212_169, zs_212_170, zs_212_172, zs_212_175, zs_212_176, zs_212_177, zs_212_178, zs_212_181, zs_212_182, zs_212_184, zs_212_187, hm, zmf_6, a1, a3, zw_1_o g, w2, w4, if_pos c, ↓reduceIte]
    · rw [if_neg c]
      simp only [zc_212, zs_212_0, zs_212_1, zs_212_4, zs_212_5, zs_212_6, zs_212_40, zs_212_41, zs_212_44, zs_212_45, zs_212_48, zs_212_49, zs_212_50, zs_212_53, zs_212_54, zs_212_55, zs_212_58, zs_212_59, zs_212_62, zs_212_63, zs_212_64, zs_212_65, zs_212_68, zs_212_69, zs_212_72, zs_212_73, zs_212_74, zs_212_77, zs_212_78, zs_212_79, zs_212_80, zs_212_81, zs_212_84, zs_212_85, zs_212_86, zs_212_87, zs_212_90, zs_212_91, zs_212_92, zs_212_95, zs_212_96, zs_212_97, zs_212_100, zs_212_101, zs_212_102, zs_212_103, zs_212_106, zs_212_107, zs_212_108, zs_212_109, zs_212_112, zs_212_113, zs_212_116, zs_212_117, zs_212_118, zs_212_119, zs_212_121, zs_212_124, zs_212_125, zs_212_126, zs_212_127, zs_212_130, zs_212_131, zs_212_133, zs_212_136, zs_212_137, zs_212_138, zs_212_139, zs_212_140, zs_212_141, zs_212_144, zs_212_145, zs_212_148, zs_212_149, zs_212_150, zs_212_152, zs_212_155, zs_212_156, zs_212_158, zs_212_159, zs_212_162, zs_212_163, zs_212_165, zs_212_168, zs_212_169, zs_212_170, zs_212_172, zs_212_175, zs_212_176, zs_212_177, zs_212_178, zs_212_181, zs_212_182, zs_212_184, zs_212_187, hm, zmf_6, a1, a3, zw_1_o g, w2, w4, if_neg c, ↓reduceIte]
  · subst g
    rw [if_pos rfl, if_neg (by decide), if_neg (by decide)]
    simp only [zc_212, zs_212_0, zs_212_1, zs_212_4, zs_212_5, zs_212_6, zs_212_40, zs_212_41, zs_212_44, zs_212_45, zs_212_48, zs_212_49, zs_212_50, zs_212_53, zs_212_54, zs_212_55, zs_212_58, zs_212_59, zs_212_62, zs_212_63, zs_212_64, zs_212_65, zs_212_68, zs_212_69, zs_212_72, zs_212_73, zs_212_74, zs_212_77, zs_212_78, zs_212_79, zs_212_80, zs_212_81, zs_212_84, zs_212_85, zs_212_86, zs_212_87, zs_212_90, zs_212_91, zs_212_92, zs_212_95, zs_212_96, zs_212_97, zs_212_100, zs_212_101, zs_212_102, zs_212_103, zs_212_106, zs_212_107, zs_212_108, zs_212_109, zs_212_112, zs_212_113, zs_212_116, zs_212_117, zs_212_118, zs_212_119, zs_212_121, zs_212_124, zs_212_125, zs_212_126, zs_212_127, zs_212_130, zs_212_131, zs_212_133, zs_212_136, zs_212_137, zs_212_138, zs_212_139, zs_212_140, zs_212_141, zs_212_144, zs_212_145, zs_212_148, zs_212_149, zs_212_150, zs_212_152, zs_212_155, zs_212_156, zs_212_158, zs_212_159, zs_212_162, zs_212_163, zs_212_165, zs_212_168, zs_212_169, zs_212_170, zs_212_172, zs_212_175, zs_212_176, zs_212_177, zs_212_178, zs_212_181, zs_212_182, zs_212_184, zs_212_187, hm, zmf_6, zmf_7, a1, a2, a3, zw_1_99, w3, w5, w6, ↓reduceIte]
  · obtain ⟨g, gl⟩ := g
    subst g
    rw [if_neg n1, if_pos rfl, if_neg (by decide)]
    simp only [zc_212, zs_212_0, zs_212_1, zs_212_4, zs_212_5, zs_212_6, zs_212_40, zs_212_41, zs_212_44, zs_212_45, zs_212_48, zs_212_49, zs_212_50, zs_212_53, zs_212_54, zs_212_55, zs_212_58, zs_212_59, zs_212_62, zs_212_63, zs_212_64, zs_212_65, zs_212_68, zs_212_69, zs_212_72, zs_212_73, zs_212_74, zs_212_77, zs_212_78, zs_212_79, zs_212_80, zs_212_81, zs_212_84, zs_212_85, zs_212_86, zs_212_87, zs_212_90, zs_212_91, zs_212_92, zs_212_95, zs_212_96, zs_212_97, zs_212_100, zs_212_101, zs_212_102, zs_212_103, zs_212_106, zs_212_107, zs_212_108, zs_212_109, zs_212_112, zs_212_113, zs_212_116, zs_212_117, zs_212_118, zs_212_119, zs_212_121, zs_212_124, zs_212_125, zs_212_126, zs_212_127, zs_212_130, zs_212_131, zs_212_133, zs_212_136, zs_212_137, zs_212_138, zs_212_139, zs_212_140, zs_212_141, zs_212_144, zs_212_145, zs_212_148, zs_212_149, zs_212_150, zs_212_152, zs_212_155, zs_212_156, zs_212_158, zs_212_159, zs_212_162, zs_212_163, zs_212_165, zs_212_168, zs_212_169, zs_212_170, zs_212_172, zs_212_175, zs_212_176, zs_212_177, zs_212_178, zs_212_181, zs_212_182, zs_212_184, zs_212_187, hm, zmf_6, zmf_7, a1, a2, a3, zw_1_118, w3, w5, w6, ↓reduceIte]
  · subst g
    rw [if_neg n2, if_neg n3, if_pos rfl, if_neg (by decide), if_neg (by decide)]
    simp only [zc_212, zs_212_0, zs_212_1, zs_212_4, zs_212_5, zs_212_6, zs_212_40, zs_212_41, zs_212_44, zs_212_45, zs_212_48, zs_212_49, zs_212_50, zs_212_53, zs_212_54, zs_212_55, zs_212_58, zs_212_59, zs_212_62, zs_212_63, zs_212_64, zs_212_65, zs_212_68, zs_212_69, zs_212_72, zs_212_73, zs_212_74, zs_212_77, zs_212_78, zs_212_79, zs_212_80, zs_212_81, zs_212_84, zs_212_85, zs_212_86, zs_212_87, zs_212_90, zs_212_91, zs_212_92, zs_212_95, zs_212_96, zs_212_97, zs_212_100, zs_212_101, zs_212_102, zs_212_103, zs_212_106, zs_212_107, zs_212_108, zs_212_109, zs_212_112, zs_212_113, zs_212_116, zs_212_117, zs_212_118, zs_212_119, zs_212_121, zs_212_124, zs_212_125, zs_212_126, zs_212_127, zs_212_130, zs_212_131, zs_212_133, zs_212_136, zs_212_137, zs_212_138, zs_212_139, zs_212_140, zs_212_141, zs_212_144, zs_212_145, zs_212_148, zs_212_149, zs_212_150, zs_212_152, zs_212_155, zs_212_156, zs_212_158, zs_212_159, zs_212_162, zs_212_163, zs_212_165, zs_212_168, zs_212_169, zs_212_170, zs_212_172, zs_212_175, zs_212_176, zs_212_177, zs_212_178, zs_212_181, zs_212_182, zs_212_184, zs_212_187, hm, zmf_6, a1, a3, zw_1_110, w3, w5, w6, ↓reduceIte]
  · rw [if_neg (fun q => by rw [q] at g; exact absurd g (by decide +kernel)), if_neg (fun q => by rw [q] at g; exact absurd g (by decide +kernel)), if_neg (yis_n110 g), if_neg (by decide), if_neg (by decide), if_neg (by decide)]
    unfold ymx
    by_cases c : a = b
    · rw [if_pos c]
      simp only [zc_212, zs_212_0, zs_212_1, zs_212_4, zs_212_5, zs_212_6, zs_212_40, zs_212_41, zs_212_44, zs_212_45, zs_212_48, zs_212_49, zs_212_50, zs_212_53, zs_212_54, zs_212_55, zs_212_58, zs_212_59, zs_212_62, zs_212_63, zs_212_64, zs_212_65, zs_212_68, zs_212_69, zs_212_72, zs_212_73, zs_212_74, zs_212_77, zs_212_78, zs_212_79, zs_212_80, zs_212_81, zs_212_84, zs_212_85, zs_212_86, zs_212_87, zs_212_90, zs_212_91, zs_212_92, zs_212_95, zs_212_96, zs_212_97, zs_212_100, zs_212_101, zs_212_102, zs_212_103, zs_212_106, zs_212_107, zs_212_108, zs_212_109, zs_212_112, zs_212_113, zs_212_116, zs_212_117, zs_212_118, zs_212_119, zs_212_121, zs_212_124, zs_212_125, zs_212_126, zs_212_127, zs_212_130, zs_212_131, zs_212_133, zs_212_136, zs_212_137, zs_212_138, zs_212_139, zs_212_140, zs_212_141, zs_212_144, zs_212_145, zs_212_148, zs_212_149, zs_212_150, zs_212_152, zs_212_155, zs_212_156, zs_212_158, zs_212_159, zs_212_162, zs_212_163, zs_212_165, zs_212_168, zs_212_169, zs_212_170, zs_212_172, zs_212_175, zs_212_176, zs_212_177, zs_212_178, zs_212_181, zs_212_182, zs_212_184, zs_212_187, hm, zmf_6, a1, a3, zw_1_o g, w3, w5, w6, if_pos c, ↓reduceIte]
    · rw [if_neg c]
      simp only [zc_212, zs_212_0, zs_212_1, zs_212_4, zs_212_5, zs_212_6, zs_212_40, zs_212_41, zs_212_44, zs_212_45, zs_212_48, zs_212_49, zs_212_50, zs_212_53, zs_212_54, zs_212_55, zs_212_58, zs_212_59, zs_212_62, zs_212_63, zs_212_64, zs_212_65, zs_212_68, zs_212_69, zs_212_72, zs_212_73, zs_212_74, zs_212_77, zs_212_78, zs_212_79, zs_212_80, zs_212_81, zs_212_84, zs_212_85, zs_212_86, zs_212_87, zs_212_90, zs_212_91, zs_212_92, zs_212_95, zs_212_96, zs_212_97, zs_212_100, zs_212_101, zs_212_102, zs_212_103, zs_212_106, zs_212_107, zs_212_108, zs_212_109, zs_212_112, zs_212_113, zs_212_116, zs_212_117, zs_212_118, zs_212_119, zs_212_121, zs_212_124, zs_212_125, zs_212_126, zs_212_127, zs_212_130, zs_212_131, zs_212_133, zs_212_136, zs_212_137, zs_212_138, zs_212_139, zs_212_140, zs_212_141, zs_212_144, zs_212_145, zs_212_148, zs_212_149, zs_212_150, zs_212_152, zs_212_155, zs_212_156, zs_212_158, zs_212_159, zs_212_162, zs_212_163, zs_212_165, zs_212_168, zs_212_169, zs_212_170, zs_212_172, zs_212_175, zs_212_176, zs_212_177, zs_212_178, zs_212_181, zs_212_182, zs_212_184, zs_212_187, hm, zmf_6, a1, a3, zw_1_o g, w3, w5, w6, if_neg c, ↓reduceIte]
end ZFK

def yfs (f : Int32 → Int32 → Int32 → Int32 → Int32) : yT → List Int32
  | .leaf => []
  | .inner n k v l r => f k v (yfo f l) (yfo f r) :: (yfs f l ++ yfs f r)
theorem yfs_len {f : Int32 → Int32 → Int32 → Int32 → Int32} : ∀ t, (yfs f t).length = ysz t
  | .leaf => rfl
  | .inner n k v l r => by
    show (yfs f l ++ yfs f r).length + 1 = ysz l + ysz r + 1
    rw [List.length_append, yfs_len l, yfs_len r]
/-- the stack's content, and what was found from a place on -/
def zFS (h : zH) (m : Nat) (s : List Int32) (q : Nat) (g : List Int32) : Prop := ∃ St Fd : List Int32, (h.1 (m + 10) = (20, St.map Value.int) ∧ St.length = 700 ∧ St.take s.length = s ∧ s.length ≤ 700) ∧ h.1 (m + 9) = (20, Fd.map Value.int) ∧ Fd.length = 700 ∧ (Fd.drop q).take g.length = g ∧ q + g.length ≤ 700
def zfw (m : Nat) (h h' : zH) : Prop := (∀ q, q ≠ m + 9 → q ≠ m + 10 → h'.1 q = h.1 q) ∧ h'.2 = h.2
theorem zfw_rfl {m : Nat} {h : zH} : zfw m h h := ⟨fun _ _ _ => rfl, rfl⟩
theorem zfw_tr {m : Nat} {h h' h'' : zH} (h1 : zfw m h h') (h2 : zfw m h' h'') : zfw m h h'' := ⟨fun q a b => (h2.1 q a b).trans (h1.1 q a b), h2.2.trans h1.2⟩
theorem nI_m {n : Nat} : nI (n + 1) - nI 1 = nI n := by rw [← nI_add, Int32.add_sub_cancel]
theorem nI_mm {n : Nat} : nI n + (-1) = nI n - nI 1 := by
  have : (-1 : Int32) = -(nI 1) := by decide +kernel
  rw [this, ← Int32.sub_eq_add_neg]
theorem ydrop_set {Fd g : List Int32} {i : Nat} {x : Int32} (hg : (Fd.drop (i + 1)).take g.length = g) (hi : i < Fd.length) : ((Fd.set i x).drop i).take (x :: g).length = x :: g := by
  have e1 : (Fd.set i x).drop i = x :: Fd.drop (i + 1) := by
    rw [List.drop_eq_getElem_cons (by rw [List.length_set]; exact hi), List.getElem_set_self, List.drop_set_of_lt (by omega)]
  rw [e1, List.length_cons, List.take_succ_cons, hg]
section ZFL
variable {sv : Nat → Value} {d : Nat} {m : Nat} {F : Nat → Int32} {ps : yP}
theorem e_213s {h : zH} {i w : Nat} {k v : Int32} {N s0 args g : List Int32} {s4 s5 s6 : Slot} (h4 : znw s4 = true) (h5 : znw s5 = true) (h6 : znw s6 = true) (hm : zMo h m F) (hl : zLst h (m + 5) (m + 6) ps) (hN : h.1 (m + 1) = (20, N.map Value.int)) (hNl : N.length = 387) (hi : ps[i]? = some (k, yva k v)) (hk : yok1 k v) (hw : w < 4) (hn : yar k = nI args.length) (ha : args.length ≤ 2) (hs : zFS h m (s0 ++ args) (i + 1) g) (hsl : s0.length < 600) : ∃ h' r4 r5 r6, zrun zP sv (zcall zP sv (d + 2)) 213 9 [.val (.ref m), .val (.int (nI w)), .val (.int (nI (s0.length + args.length))), .val (.int (nI (i + 1) - nI 1)), s4, s5, s6] [] h = zrun zP sv (zcall zP sv (d + 2)) 213 9 [.val (.ref m), .val (.int (nI w)), .val (.int (nI (s0.length + 1))), .val (.int (nI i - nI 1)), r4, r5, r6] [] h' ∧ znw r4 = true ∧ znw r5 = true ∧ znw r6 = true ∧ zFS h' m (s0 ++ [ymf w N k v (args.getLastD 0) (if args.length = 2 then args.getD 0 0 else 0)]) i (ymf w N k v (args.getLastD 0) (if args.length = 2 then args.getD 0 0 else 0) :: g) ∧ zfw m h h' := by
  obtain ⟨A, B, a1, a2, a3, a4, a5⟩ := e_look hl hi
  have hm0 := hm
  unfold zMo at hm
  obtain ⟨St, Fd, ⟨b1, b2, b3, b4⟩, c1, c2, c3, c4⟩ := hs
  rw [List.length_append] at b4
  have e212 : ∀ a b, zcall zP sv (d + 2) 212 [.ref m, .int (nI i), .int (nI w), .int a, .int b] h = some (.inl (some (.int (ymf w N k v a b))), h) := fun a b => e_212 hm0 hl hN hNl hi hk hw
  have hki : ¬ nI i < 0 := nI_pos (by omega)
  have tail : ∀ (y : Int32) (u4 u5 u6 : Slot), ∃ h', zrun zP sv (zcall zP sv (d + 2)) 213 78 [.val (.ref m), .val (.int (nI w)), .val (.int (nI (s0.length + args.length))), .val (.int (nI i)), .val (.int (nI args.length)), u5, u6] [.int y, .int (nI i), .ref (m + 9)] h = zrun zP sv (zcall zP sv (d + 2)) 213 9 [.val (.ref m), .val (.int (nI w)), .val (.int (nI (s0.length + 1))), .val (.int (nI i - nI 1)), .val (.int (nI args.length)), u5, u6] [] h' ∧ zFS h' m (s0 ++ [y]) i (y :: g) ∧ zfw m h h' := by
    intro y u4 u5 u6
    have z1 : ∀ Kc : zC → zR, zaset (20, Fd.map Value.int) 20 (nI i) (.int y) Kc = Kc (20, (Fd.set i y).map Value.int) := fun Kc => zsI (by omega) (by omega)
    have z2 : ∀ Kv, zael (20, (Fd.set i y).map Value.int) 20 (nI i) Kv = Kv (.int y) := fun Kv => zaelv (by rw [List.getElem?_map, List.getElem?_set_self (by omega)]; rfl) (by omega)
    have z3 : ∀ Kc : zC → zR, zaset (20, St.map Value.int) 20 (nI s0.length) (.int y) Kc = Kc (20, (St.set s0.length y).map Value.int) := fun Kc => zsI (by omega) (by omega)
    have z4 : nI (s0.length + args.length) - nI args.length = nI s0.length := by rw [← nI_add, Int32.add_sub_cancel]
    refine ⟨zup (zup h (m + 9) (20, (Fd.set i y).map Value.int)) (m + 10) (20, (St.set s0.length y).map Value.int), ?_, ⟨St.set s0.length y, Fd.set i y, ⟨zup_at, by rw [List.length_set, b2], ?_, by rw [List.length_append]; show s0.length + 1 ≤ 700; omega⟩, by rw [zup_ne (by omega), zup_at], by rw [List.length_set, c2], ydrop_set c3 (by omega), by rw [List.length_cons]; omega⟩, ⟨fun q q1 q2 => by rw [zup_ne q2, zup_ne q1], rfl⟩⟩
    · simp (disch := first | exact znw_i | omega) only [zs_213_0, zs_213_1, zs_213_2, zs_213_3, zs_213_6, zs_213_7, zs_213_8, zs_213_10, zs_213_13, zs_213_14, zs_213_17, zs_213_18, zs_213_19, zs_213_22, zs_213_24, zs_213_26, zs_213_29, zs_213_30, zs_213_33, zs_213_34, zs_213_35, zs_213_36, zs_213_37, zs_213_40, zs_213_41, zs_213_43, zs_213_45, zs_213_46, zs_213_49, zs_213_50, zs_213_53, zs_213_54, zs_213_55, zs_213_56, zs_213_57, zs_213_60, zs_213_61, zs_213_63, zs_213_64, zs_213_67, zs_213_68, zs_213_69, zs_213_70, zs_213_71, zs_213_73, zs_213_75, zs_213_78, zs_213_79, zs_213_80, zs_213_82, zs_213_83, zs_213_84, zs_213_85, zs_213_88, zs_213_89, zs_213_92, zs_213_93, zs_213_96, zs_213_97, zs_213_98, zs_213_99, zs_213_106, zs_213_109, zs_213_110, zs_213_111, c1, z1, z4, hm, zup_ne, zmf_12, zmf_13, zup_at, z2, b1, z3, nI_1']
      rw [zs_213_102, nI_mm]
    · have hb : St.take s0.length = s0 := by
        have := congrArg (List.take s0.length) b3
        rw [List.take_take, List.length_append, Nat.min_eq_left (by omega), List.take_left' rfl] at this
        exact this
      rw [show (s0 ++ [y]).length = s0.length + 1 from List.length_append, ytk_set hb (by omega)]
  have g21 : ((1 : Nat) = 2) = False := by decide
  rcases (show args.length = 0 ∨ args.length = 1 ∨ args.length = 2 by omega) with hz | hz | hz
  · obtain rfl := List.length_eq_zero_iff.mp hz
    obtain ⟨h', e, w1, w2⟩ := tail (ymf w N k v 0 0) (.val (.int 0)) (.val (.int 0)) (.val (.int 0))
    refine ⟨h', .val (.int (nI ([] : List Int32).length)), .val (.int 0), .val (.int 0), ?_, rfl, rfl, rfl, w1, w2⟩
    rw [← e]
    rw [List.length_nil, nI_0] at hn
    have g1 : ((0 : Int32) < nI 1) = True := by decide +kernel
    have g2 : ((nI 1 : Int32) < 0) = False := by decide +kernel
    have g3 : ((0 : Int32) < 0) = False := by decide +kernel
    rw [zs_213_9, nI_m, zs_213_10, if_neg hki]
    simp (disch := first | exact h4 | exact h5 | exact h6) only [zs_213_0, zs_213_1, zs_213_2, zs_213_3, zs_213_6, zs_213_7, zs_213_8, zs_213_13, zs_213_14, zs_213_17, zs_213_18, zs_213_19, zs_213_22, zs_213_24, zs_213_26, zs_213_29, zs_213_30, zs_213_33, zs_213_34, zs_213_35, zs_213_36, zs_213_37, zs_213_40, zs_213_41, zs_213_43, zs_213_45, zs_213_46, zs_213_49, zs_213_50, zs_213_53, zs_213_54, zs_213_55, zs_213_56, zs_213_57, zs_213_60, zs_213_61, zs_213_63, zs_213_64, zs_213_67, zs_213_68, zs_213_69, zs_213_70, zs_213_71, zs_213_73, zs_213_75, zs_213_79, zs_213_80, zs_213_82, zs_213_83, zs_213_84, zs_213_85, zs_213_88, zs_213_89, zs_213_92, zs_213_93, zs_213_96, zs_213_97, zs_213_98, zs_213_99, zs_213_102, zs_213_105, zs_213_106, zs_213_109, zs_213_110, zs_213_111, hm, zmf_6, zmf_12, a1, a3, e_205, hn, zrc_13v, e212, g1, g2, g3, zbk_v, zts_s, ↓reduceIte, List.length_nil, nI_0]
  · obtain ⟨x, rfl⟩ := List.length_eq_one_iff.mp hz
    obtain ⟨h', e, w1, w2⟩ := tail (ymf w N k v x 0) (.val (.int 0)) (.val (.int x)) (.val (.int 0))
    refine ⟨h', .val (.int (nI [x].length)), .val (.int x), .val (.int 0), ?_, rfl, rfl, rfl, w1, w2⟩
    rw [← e]
    have hx : St[s0.length]? = some x := ytk_at b3 (by rw [List.getElem?_append_right (Nat.le_refl _), Nat.sub_self]; rfl)
    have z5 : ∀ Kv, zael (20, St.map Value.int) 20 (nI s0.length) Kv = Kv (.int x) := fun Kv => zaelv (by rw [List.getElem?_map, hx]; rfl) (by omega)
    have hn1 : yar k = nI 1 := hn
    have g1 : ((0 : Int32) < nI 1) = True := by decide +kernel
    have g2 : ((nI 1 : Int32) < nI 1) = False := by decide +kernel
    have l1 : [x].length = 1 := rfl
    rw [zs_213_9, nI_m, zs_213_10, if_neg hki]
    simp (disch := first | exact h4 | exact h5 | exact h6) only [zs_213_0, zs_213_1, zs_213_2, zs_213_3, zs_213_6, zs_213_7, zs_213_8, zs_213_13, zs_213_14, zs_213_17, zs_213_18, zs_213_19, zs_213_22, zs_213_24, zs_213_26, zs_213_29, zs_213_30, zs_213_33, zs_213_34, zs_213_35, zs_213_36, zs_213_37, zs_213_40, zs_213_41, zs_213_43, zs_213_45, zs_213_46, zs_213_49, zs_213_50, zs_213_53, zs_213_54, zs_213_55, zs_213_56, zs_213_57, zs_213_60, zs_213_61, zs_213_63, zs_213_64, zs_213_67, zs_213_68, zs_213_69, zs_213_70, zs_213_71, zs_213_73, zs_213_75, zs_213_79, zs_213_80, zs_213_82, zs_213_83, zs_213_84, zs_213_85, zs_213_88, zs_213_89, zs_213_92, zs_213_93, zs_213_96, zs_213_97, zs_213_98, zs_213_99, zs_213_102, zs_213_105, zs_213_106, zs_213_109, zs_213_110, zs_213_111, hm, zmf_6, zmf_12, zmf_13, a1, a3, e_205, hn1, zrc_13v, b1, l1, nI_m, z5, e212, g1, g2, zbk_v, zts_s, ↓reduceIte]
  · obtain ⟨y, x, rfl⟩ : ∃ y x, args = [y, x] := by
      match args, hz with
      | [y, x], _ => exact ⟨y, x, rfl⟩
    obtain ⟨h', e, w1, w2⟩ := tail (ymf w N k v x y) (.val (.int 0)) (.val (.int x)) (.val (.int y))
    refine ⟨h', .val (.int (nI [y, x].length)), .val (.int x), .val (.int y), ?_, rfl, rfl, rfl, w1, w2⟩
    rw [← e]
    have hx : St[s0.length + 1]? = some x := ytk_at b3 (by rw [List.getElem?_append_right (by omega), show s0.length + 1 - s0.length = 1 by omega]; rfl)
    have hy : St[s0.length]? = some y := ytk_at b3 (by rw [List.getElem?_append_right (Nat.le_refl _), Nat.sub_self]; rfl)
    have z5 : ∀ Kv, zael (20, St.map Value.int) 20 (nI (s0.length + 1)) Kv = Kv (.int x) := fun Kv => zaelv (by rw [List.getElem?_map, hx]; rfl) (by omega)
    have z6 : ∀ Kv, zael (20, St.map Value.int) 20 (nI s0.length) Kv = Kv (.int y) := fun Kv => zaelv (by rw [List.getElem?_map, hy]; rfl) (by omega)
    have hn1 : yar k = nI 2 := hn
    have g1 : ((0 : Int32) < nI 2) = True := by decide +kernel
    have g2 : ((nI 1 : Int32) < nI 2) = True := by decide +kernel
    have l1 : [y, x].length = 2 := rfl
    have m2 : nI (s0.length + 2) - nI 2 = nI s0.length := by rw [← nI_add, Int32.add_sub_cancel]
    have m1 : nI (s0.length + 2) - nI 1 = nI (s0.length + 1) := by rw [show s0.length + 2 = (s0.length + 1) + 1 by omega, nI_m]
    rw [zs_213_9, nI_m, zs_213_10, if_neg hki]
    simp (disch := first | exact h4 | exact h5 | exact h6) only [zs_213_0, zs_213_1, zs_213_2, zs_213_3, zs_213_6, zs_213_7, zs_213_8, zs_213_13, zs_213_14, zs_213_17, zs_213_18, zs_213_19, zs_213_22, zs_213_24, zs_213_26, zs_213_29, zs_213_30, zs_213_33, zs_213_34, zs_213_35, zs_213_36, zs_213_37, zs_213_40, zs_213_41, zs_213_43, zs_213_45, zs_213_46, zs_213_49, zs_213_50, zs_213_53, zs_213_54, zs_213_55, zs_213_56, zs_213_57, zs_213_60, zs_213_61, zs_213_63, zs_213_64, zs_213_67, zs_213_68, zs_213_69, zs_213_70, zs_213_71, zs_213_73, zs_213_75, zs_213_79, zs_213_80, zs_213_82, zs_213_83, zs_213_84, zs_213_85, zs_213_88, zs_213_89, zs_213_92, zs_213_93, zs_213_96, zs_213_97, zs_213_98, zs_213_99, zs_213_102, zs_213_105, zs_213_106, zs_213_109, zs_213_110, zs_213_111, hm, zmf_6, zmf_12, zmf_13, a1, a3, e_205, hn1, zrc_13v, b1, l1, m1, m2, z5, z6, e212, g1, g2, zbk_v, zts_s, ↓reduceIte]
end ZFL

section ZFM
variable {sv : Nat → Value} {d : Nat} {m : Nat} {F : Nat → Int32}
theorem e_213l {w : Nat} {N : List Int32} (hw : w < 4) (hNl : N.length = 387) : ∀ (t : yT), ytw t = true → ∀ (pre post : yP) (s g : List Int32) (h : zH) (s4 s5 s6 : Slot), znw s4 = true → znw s5 = true → znw s6 = true → zMo h m F → zLst h (m + 5) (m + 6) (pre ++ ypr t ++ post) → h.1 (m + 1) = (20, N.map Value.int) → zFS h m s (pre.length + ysz t) g → s.length + ysz t < 600 → ∃ h' r4 r5 r6, zrun zP sv (zcall zP sv (d + 2)) 213 9 [.val (.ref m), .val (.int (nI w)), .val (.int (nI s.length)), .val (.int (nI (pre.length + ysz t) - nI 1)), s4, s5, s6] [] h = zrun zP sv (zcall zP sv (d + 2)) 213 9 [.val (.ref m), .val (.int (nI w)), .val (.int (nI (s.length + 1))), .val (.int (nI pre.length - nI 1)), r4, r5, r6] [] h' ∧ znw r4 = true ∧ znw r5 = true ∧ znw r6 = true ∧ zFS h' m (s ++ [yfo (ymf w N) t]) pre.length (yfs (ymf w N) t ++ g) ∧ zfw m h h'
  | .leaf, ht => by cases ht
  | .inner z k v l r, ht => by
    intro pre post s g h s4 s5 s6 h4 h5 h6 hm hl hN hs hlen
    have hlen' : s.length + (ysz l + ysz r + 1) < 600 := hlen
    have e0 : pre ++ ypr (.inner z k v l r) ++ post = pre ++ (k, yva k v) :: (ypr l ++ ypr r ++ post) := by
      show pre ++ (k, yva k v) :: (ypr l ++ ypr r) ++ post = _
      rw [List.append_assoc]; rfl
    have hi : (pre ++ (k, yva k v) :: (ypr l ++ ypr r ++ post))[pre.length]? = some (k, yva k v) := by
      rw [List.getElem?_append_right (Nat.le_refl _), Nat.sub_self]; rfl
    rw [e0] at hl
    have ea : pre ++ (k, yva k v) :: (ypr l ++ ypr r ++ post) = (pre ++ [(k, yva k v)]) ++ ypr l ++ (ypr r ++ post) := by
      rw [List.append_assoc, List.append_assoc, List.append_assoc]; rfl
    have eb : pre ++ (k, yva k v) :: (ypr l ++ ypr r ++ post) = (pre ++ [(k, yva k v)] ++ ypr l) ++ ypr r ++ post := by
      rw [ea]
      simp only [List.append_assoc]
    have l1 : (pre ++ [(k, yva k v)]).length = pre.length + 1 := List.length_append
    have l2 : (pre ++ [(k, yva k v)] ++ ypr l).length = pre.length + 1 + ysz l := by rw [List.length_append, l1, ypr_len]
    have fwl : ∀ h', zfw m h h' → zMo h' m F ∧ zLst h' (m + 5) (m + 6) (pre ++ (k, yva k v) :: (ypr l ++ ypr r ++ post)) ∧ h'.1 (m + 1) = (20, N.map Value.int) := fun h' f => ⟨by unfold zMo at hm ⊢; rw [f.1 m (by omega) (by omega), hm], zLst_cg hl (f.1 _ (by omega) (by omega)) (f.1 _ (by omega) (by omega)), by rw [f.1 _ (by omega) (by omega), hN]⟩
    rcases ytw_el ht with g0 | g0 | g0 | g0
    · obtain ⟨g1, g2, g3⟩ := g0
      subst g1 g2 g3
      obtain ⟨h', r4, r5, r6, e, q1, q2, q3, q4, q5⟩ := e_213s (sv := sv) (d := d) (args := []) (s0 := s) (g := g) h4 h5 h6 hm hl hN hNl hi (Or.inl rfl) hw (by rw [yar_c]; exact nI_0.symm) (by decide) (by rw [List.append_nil]; exact hs) (by omega)
      exact ⟨h', r4, r5, r6, e, q1, q2, q3, q4, q5⟩
    · obtain ⟨g1, gl, g2, g3⟩ := g0
      subst g1 g2 g3
      obtain ⟨h', r4, r5, r6, e, q1, q2, q3, q4, q5⟩ := e_213s (sv := sv) (d := d) (args := []) (s0 := s) (g := g) h4 h5 h6 hm hl hN hNl hi (Or.inr (Or.inl ⟨rfl, gl⟩)) hw (by rw [yar_v]; exact nI_0.symm) (by decide) (by rw [List.append_nil]; exact hs) (by omega)
      exact ⟨h', r4, r5, r6, e, q1, q2, q3, q4, q5⟩
    · obtain ⟨g1, gv, g2, g3⟩ := g0
      subst g1 gv g3
      have hl1 := hl
      rw [ea] at hl1
      have hs1 : zFS h m s ((pre ++ [(nI 110, yva (nI 110) 0)]).length + ysz l) g := by
        rw [l1, show pre.length + 1 + ysz l = pre.length + (ysz l + 0 + 1) by omega]
        exact hs
      obtain ⟨h1, u4, u5, u6, e1, p1, p2, p3, p4, p5⟩ := e_213l hw hNl l g2 _ _ s g h s4 s5 s6 h4 h5 h6 hm hl1 hN hs1 (by omega)
      rw [l1] at e1 p4
      obtain ⟨hm2, hl2, hN2⟩ := fwl h1 p5
      obtain ⟨h', r4, r5, r6, e, q1, q2, q3, q4, q5⟩ := e_213s (sv := sv) (d := d) (args := [yfo (ymf w N) l]) (s0 := s) (g := yfs (ymf w N) l ++ g) p1 p2 p3 hm2 hl2 hN2 hNl hi (Or.inr (Or.inr (Or.inl rfl))) hw yar_n (Nat.le_succ 1) p4 (by omega)
      refine ⟨h', r4, r5, r6, ?_, q1, q2, q3, ?_, zfw_tr p5 q5⟩
      · rw [← e, ← show s.length + [yfo (ymf w N) l].length = s.length + 1 from rfl] at *
        rw [show pre.length + ysz (.inner z (nI 110) 0 l .leaf) = pre.length + 1 + ysz l by show pre.length + (ysz l + 0 + 1) = _; omega]
        exact e1
      · show zFS h' m (s ++ [ymf w N (nI 110) 0 (yfo (ymf w N) l) 0]) pre.length (ymf w N (nI 110) 0 (yfo (ymf w N) l) 0 :: (yfs (ymf w N) l ++ []) ++ g)
        rw [List.append_nil]
        exact q4
    · obtain ⟨gk, gv, g2, g3⟩ := g0
      subst gv
      have hl1 := hl
      rw [eb] at hl1
      have hs1 : zFS h m s ((pre ++ [(k, yva k 0)] ++ ypr l).length + ysz r) g := by
        rw [l2, show pre.length + 1 + ysz l + ysz r = pre.length + (ysz l + ysz r + 1) by omega]
        exact hs
      obtain ⟨h1, u4, u5, u6, e1, p1, p2, p3, p4, p5⟩ := e_213l hw hNl r g3 _ _ s g h s4 s5 s6 h4 h5 h6 hm hl1 hN hs1 (by omega)
      rw [l2] at e1 p4
      obtain ⟨hm2, hl2, hN2⟩ := fwl h1 p5
      have hl2' := hl2
      rw [ea] at hl2'
      have hs2 : zFS h1 m (s ++ [yfo (ymf w N) r]) ((pre ++ [(k, yva k 0)]).length + ysz l) (yfs (ymf w N) r ++ g) := by
        rw [l1]
        exact p4
      have ls : (s ++ [yfo (ymf w N) r]).length = s.length + 1 := List.length_append
      obtain ⟨h2, x4, x5, x6, e2, o1, o2, o3, o4, o5⟩ := e_213l hw hNl l g2 _ _ (s ++ [yfo (ymf w N) r]) _ h1 u4 u5 u6 p1 p2 p3 hm2 hl2' hN2 hs2 (by rw [ls]; omega)
      rw [l1, ls] at e2
      rw [l1] at o4
      obtain ⟨hm3, hl3, hN3⟩ := fwl h2 (zfw_tr p5 o5)
      rw [List.append_assoc] at o4
      obtain ⟨h', r4, r5, r6, e, q1, q2, q3, q4, q5⟩ := e_213s (sv := sv) (d := d) (args := [yfo (ymf w N) r, yfo (ymf w N) l]) (s0 := s) (g := yfs (ymf w N) l ++ (yfs (ymf w N) r ++ g)) o1 o2 o3 hm3 hl3 hN3 hNl hi (Or.inr (Or.inr (Or.inr gk))) hw (yar_o gk) (Nat.le_refl 2) o4 (by omega)
      refine ⟨h', r4, r5, r6, ?_, q1, q2, q3, ?_, zfw_tr (zfw_tr p5 o5) q5⟩
      · rw [show pre.length + ysz (.inner z k 0 l r) = pre.length + 1 + ysz l + ysz r by show pre.length + (ysz l + ysz r + 1) = _; omega]
        exact e1.trans (e2.trans e)
      · show zFS h' m (s ++ [ymf w N k 0 (yfo (ymf w N) l) (yfo (ymf w N) r)]) pre.length (ymf w N k 0 (yfo (ymf w N) l) (yfo (ymf w N) r) :: (yfs (ymf w N) l ++ yfs (ymf w N) r) ++ g)
        have e9 : ymf w N k 0 (yfo (ymf w N) l) (yfo (ymf w N) r) :: (yfs (ymf w N) l ++ yfs (ymf w N) r) ++ g = ymf w N k 0 (yfo (ymf w N) l) (yfo (ymf w N) r) :: (yfs (ymf w N) l ++ (yfs (ymf w N) r ++ g)) := by
          rw [List.cons_append, List.append_assoc]
        rw [e9]
        exact q4
end ZFM

def zSF (h : zH) (m : Nat) : Prop := ∃ St Fd : List Int32, h.1 (m + 10) = (20, St.map Value.int) ∧ St.length = 700 ∧ h.1 (m + 9) = (20, Fd.map Value.int) ∧ Fd.length = 700
theorem zSF_FS {h : zH} {m q : Nat} (hs : zSF h m) (hq : q ≤ 700) : zFS h m [] q [] := by
  obtain ⟨St, Fd, a1, a2, a3, a4⟩ := hs
  exact ⟨St, Fd, ⟨a1, a2, rfl, Nat.zero_le _⟩, a3, a4, rfl, hq⟩
theorem zFS_SF {h : zH} {m q : Nat} {s g : List Int32} (hs : zFS h m s q g) : zSF h m := by
  obtain ⟨St, Fd, ⟨a1, a2, _⟩, a3, a4, _⟩ := hs
  exact ⟨St, Fd, a1, a2, a3, a4⟩
theorem zSF_cg {h h' : zH} {m : Nat} (hs : zSF h m) (h1 : h'.1 (m + 9) = h.1 (m + 9)) (h2 : h'.1 (m + 10) = h.1 (m + 10)) : zSF h' m := by
  obtain ⟨St, Fd, a1, a2, a3, a4⟩ := hs
  exact ⟨St, Fd, by rw [h2, a1], a2, by rw [h1, a3], a4⟩
theorem ymf1 {N : List Int32} : ∀ t : yT, ytw t = true → ydp t < 2 ^ 31 → yfo (ymf 1 N) t = nI (ydp t)
  | .leaf, ht, _ => by cases ht
  | .inner n k v l r, ht, hd => by
    have hd' : max (ydp l) (ydp r) + 1 < 2 ^ 31 := hd
    have m1 := Nat.le_max_left (ydp l) (ydp r)
    have m2 := Nat.le_max_right (ydp l) (ydp r)
    show ymf 1 N k v (yfo (ymf 1 N) l) (yfo (ymf 1 N) r) = nI (max (ydp l) (ydp r) + 1)
    have il : ytw l = true → yfo (ymf 1 N) l = nI (ydp l) := fun g => ymf1 l g (by omega)
    have ir : ytw r = true → yfo (ymf 1 N) r = nI (ydp r) := fun g => ymf1 r g (by omega)
    generalize yfo (ymf 1 N) l = x at *
    generalize yfo (ymf 1 N) r = y at *
    unfold ymf
    rcases ytw_el ht with g | g | g | g
    · obtain ⟨g1, g2, g3⟩ := g
      subst g1 g2 g3
      rw [if_pos rfl, if_neg (by decide), if_neg (by decide)]
      rfl
    · obtain ⟨g1, _, g2, g3⟩ := g
      subst g1 g2 g3
      rw [if_neg (by decide +kernel), if_pos rfl, if_neg (by decide)]
      rfl
    · obtain ⟨g1, _, g2, g3⟩ := g
      subst g1 g3
      rw [if_neg (by decide +kernel), if_neg (by decide +kernel), if_pos rfl, if_neg (by decide), if_pos rfl, il g2, nI_1', show max (ydp l) (ydp (.leaf : yT)) = ydp l from Nat.max_eq_left (Nat.zero_le _)]
    · obtain ⟨gk, _, g2, g3⟩ := g
      rw [if_neg (fun q => by rw [q] at gk; exact absurd gk (by decide +kernel)), if_neg (fun q => by rw [q] at gk; exact absurd gk (by decide +kernel)), if_neg (yis_n110 gk), if_neg (by decide), if_pos rfl, il g2, ir g3, nI_ltn (by omega) (by omega), nI_1']
section ZFN
variable {sv : Nat → Value} {d : Nat} {h : zH} {m : Nat} {F : Nat → Int32}
theorem e_213 {w : Nat} {t : yT} {N : List Int32} (hw : w < 4) (ht : ytw t = true) (hz : ysz t < 600) (hm : zMo h m F) (h8 : F 8 = nI (ysz t)) (hl : zLst h (m + 5) (m + 6) (ypr t)) (hN : h.1 (m + 1) = (20, N.map Value.int)) (hNl : N.length = 387) (hs : zSF h m) : ∃ h', zcall zP sv (d + 3) 213 [.ref m, .int (nI w)] h = some (.inl (some (.int (yfo (ymf w N) t))), h') ∧ zFS h' m [yfo (ymf w N) t] 0 (yfs (ymf w N) t) ∧ zfw m h h' := by
  have hl0 : zLst h (m + 5) (m + 6) ([] ++ ypr t ++ []) := by rw [List.append_nil, List.nil_append]; exact hl
  obtain ⟨h', r4, r5, r6, e, q1, q2, q3, q4, q5⟩ := e_213l (sv := sv) (d := d) hw hNl t ht [] [] [] [] h .unset .unset .unset rfl rfl rfl hm hl0 hN (zSF_FS hs (by show 0 + ysz t ≤ 700; omega)) (by show 0 + ysz t < 600; omega)
  rw [List.append_nil, List.nil_append] at q4
  refine ⟨h', ?_, q4, q5⟩
  have hm1 := hm
  unfold zMo at hm1
  have hm2 : h'.1 m = (13, zMF m F) := by rw [q5.1 m (by omega) (by omega)]; exact hm1
  obtain ⟨St, Fd, ⟨a1, a2, a3, a4⟩, _⟩ := q4
  have hx : St[0]? = some (yfo (ymf w N) t) := ytk_at a3 rfl
  have z5 : ∀ Kv, zael (20, St.map Value.int) 20 0 Kv = Kv (.int (yfo (ymf w N) t)) := fun Kv => by
    rw [← nI_0]
    exact zaelv (by rw [List.getElem?_map, hx]; rfl) (by decide)
  have hneg : (0 : Int32) - nI 1 < 0 := by decide +kernel
  simp only [List.length_nil, nI_0, Nat.zero_add] at e
  rw [zc_213]
  simp (disch := exact znw_u) only [zs_213_0, zs_213_1, zs_213_2, zs_213_3, zs_213_6, zs_213_7, zs_213_8, hm1, zmf_8, h8]
  rw [e, zs_213_9, zs_213_10, if_pos hneg]
  simp only [zs_213_0, zs_213_1, zs_213_2, zs_213_3, zs_213_6, zs_213_7, zs_213_8, zs_213_13, zs_213_14, zs_213_17, zs_213_18, zs_213_19, zs_213_22, zs_213_24, zs_213_26, zs_213_29, zs_213_30, zs_213_33, zs_213_34, zs_213_35, zs_213_36, zs_213_37, zs_213_40, zs_213_41, zs_213_43, zs_213_45, zs_213_46, zs_213_49, zs_213_50, zs_213_53, zs_213_54, zs_213_55, zs_213_56, zs_213_57, zs_213_60, zs_213_61, zs_213_63, zs_213_64, zs_213_67, zs_213_68, zs_213_69, zs_213_70, zs_213_71, zs_213_73, zs_213_75, zs_213_78, zs_213_79, zs_213_80, zs_213_82, zs_213_83, zs_213_84, zs_213_85, zs_213_88, zs_213_89, zs_213_92, zs_213_93, zs_213_96, zs_213_97, zs_213_98, zs_213_99, zs_213_102, zs_213_105, zs_213_106, zs_213_109, zs_213_110, zs_213_111, hm2, zmf_13, a1, z5]
theorem e_215 {t : yT} {N : List Int32} (ht : ytw t = true) (hz : ysz t < 600) (hm : zMo h m F) (h8 : F 8 = nI (ysz t)) (hl : zLst h (m + 5) (m + 6) (ypr t)) (hN : h.1 (m + 1) = (20, N.map Value.int)) (hNl : N.length = 387) (hs : zSF h m) : ∃ h', zcall zP sv (d + 4) 215 [.ref m] h = some (.inl (some (.int (yb (decide (ysz t ≤ 31) && decide (ydp t ≤ 8))))), h') ∧ zSF h' m ∧ zfw m h h' := by
  have hm1 := hm
  unfold zMo at hm1
  have hdz := ydp_sz t
  by_cases c1 : ysz t ≤ 31
  · obtain ⟨h', e, q1, q2⟩ := e_213 (sv := sv) (d := d) (w := 1) (by decide) ht hz hm h8 hl hN hNl hs
    rw [ymf1 t ht (by omega)] at e
    refine ⟨h', ?_, zFS_SF q1, q2⟩
    have g1 : ¬ nI 31 < nI (ysz t) := nI_nlt c1 (by decide)
    have hrc : ∀ X : zR, zrc (h.1 m) 13 X = X := fun X => zMo_rc hm
    by_cases c2 : ydp t ≤ 8
    · have g2 : ¬ nI 8 < nI (ydp t) := nI_nlt c2 (by decide)
      simp only [zc_215, zs_215_0, zs_215_1, zs_215_4, zs_215_6, zs_215_9, zs_215_10, zs_215_11, zs_215_14, zs_215_16, zs_215_19, zs_215_20, zs_215_23, zs_215_24, hm1, zmf_8, h8, if_neg g1, zrc_13v, e, if_neg g2, zbk_v, zts_s, zty_51, zgd_t, decide_eq_true c1, decide_eq_true c2, Bool.and_self, yb_t]
    · have g2 : nI 8 < nI (ydp t) := nI_lt (by omega) (by omega)
      simp only [zc_215, zs_215_0, zs_215_1, zs_215_4, zs_215_6, zs_215_9, zs_215_10, zs_215_11, zs_215_14, zs_215_16, zs_215_19, zs_215_20, zs_215_23, zs_215_24, hm1, zmf_8, h8, if_neg g1, zrc_13v, e, if_pos g2, zbk_v, zts_s, zty_50, zgd_t, decide_eq_true c1, decide_eq_false c2, Bool.and_false, yb_f]
  · refine ⟨h, ?_, hs, zfw_rfl⟩
    have g1 : nI 31 < nI (ysz t) := nI_lt (by omega) (by omega)
    simp only [zc_215, zs_215_0, zs_215_1, zs_215_4, zs_215_6, zs_215_9, zs_215_10, zs_215_11, zs_215_14, zs_215_16, zs_215_19, zs_215_20, zs_215_23, zs_215_24, hm1, zmf_8, h8, if_pos g1, zty_50, zgd_t, decide_eq_false c1, Bool.false_and, yb_f]
/-- turns: what was made is what is looked at -/
theorem e_207l {qs : yP} (hk : ynk qs) : ∀ n j (h : zH), j + n = qs.length → h.1 m = (13, zMF m F) → F 8 = nI qs.length → zLst h (m + 7) (m + 8) qs → zLst h (m + 5) (m + 6) (qs.take j) → ∃ h', zrun zP sv (zcall zP sv d) 207 10 [.val (.ref m), .val (.int (nI j))] [] h = some (.inl none, h') ∧ zLst h' (m + 5) (m + 6) qs ∧ (∀ q, q ≠ m + 5 → q ≠ m + 6 → h'.1 q = h.1 q) ∧ h'.2 = h.2 := by
  intro n
  induction n with
  | zero =>
    intro j h hj hm h8 hd hl
    obtain rfl : j = qs.length := by omega
    rw [List.take_length] at hl
    refine ⟨h, ?_, hl, fun _ _ _ => rfl, rfl⟩
    simp only [zs_207_0, zs_207_1, zs_207_2, zs_207_5, zs_207_8, zs_207_9, zs_207_10, zs_207_11, zs_207_12, zs_207_15, zs_207_18, zs_207_19, zs_207_22, zs_207_23, zs_207_24, zs_207_27, zs_207_28, zs_207_29, zs_207_30, zs_207_31, zs_207_34, zs_207_35, zs_207_36, zs_207_39, zs_207_40, zs_207_41, zs_207_42, zs_207_45, zs_207_48, hm, zmf_8, h8, Int32.lt_irrefl, ↓reduceIte]
  | succ n ih =>
    intro j h hj hm h8 hd hl
    obtain ⟨x, hx⟩ : ∃ x, qs[j]? = some x := ⟨_, List.getElem?_eq_getElem (by omega)⟩
    obtain ⟨A, B, a1, a2, a3, a4, a5⟩ := e_made (k := x.1) (v := x.2) hd hx
    have hkx := hk x (List.mem_of_getElem? hx)
    obtain ⟨A', B', b1, b2, b3, b4, b5, b6, b7⟩ := hl
    have hjl : (qs.take j).length = j := by rw [List.length_take]; omega
    rw [hjl] at b5 b6
    have s1 : ∀ Kc : zC → zR, zaset (21, A'.map Value.int) 21 (nI j) (.int x.1) Kc = Kc (21, (A'.set j (ynr x.1)).map Value.int) := fun Kc => zsC (by omega) (by omega)
    have s2 : ∀ Kc : zC → zR, zaset (20, B'.map Value.int) 20 (nI j) (.int x.2) Kc = Kc (20, (B'.set j x.2).map Value.int) := fun Kc => zsI (by omega) (by omega)
    have htk : (qs.take (j + 1)).length = j + 1 := by rw [List.length_take]; omega
    have w : zLst (zup (zup h (m + 5) (21, (A'.set j x.1).map Value.int)) (m + 6) (20, (B'.set j x.2).map Value.int)) (m + 5) (m + 6) (qs.take (j + 1)) := by
      refine ⟨A'.set j x.1, B'.set j x.2, by rw [zup_ne (by omega), zup_at], zup_at, by rw [List.length_set, b3], by rw [List.length_set, b4], ?_, ?_, by rw [htk]; omega⟩
      · rw [htk, ytk_set b5 (by omega), List.take_add_one, hx, List.map_append]; rfl
      · rw [htk, ytk_set b6 (by omega), List.take_add_one, hx, List.map_append]; rfl
    obtain ⟨h', e, q1, q2, q3⟩ := ih (j + 1) _ (by omega) (by rw [zup_ne (by omega), zup_ne (by omega), hm]) h8 (zLst_cg hd (by rw [zup_ne (by omega), zup_ne (by omega)]) (by rw [zup_ne (by omega), zup_ne (by omega)])) w
    refine ⟨h', ?_, q1, fun q p1 p2 => by rw [q2 q p1 p2, zup_ne p2, zup_ne p1], q3⟩
    have h7 : qs.length ≤ 700 := by
      obtain ⟨_, _, _, _, _, _, _, _, a7⟩ := hd
      exact a7
    have g1 : nI j < nI qs.length := nI_lt (by omega) (by omega)
    simp (disch := first | exact znw_i | omega) only [zs_207_0, zs_207_1, zs_207_2, zs_207_5, zs_207_8, zs_207_9, zs_207_10, zs_207_11, zs_207_12, zs_207_15, zs_207_18, zs_207_19, zs_207_22, zs_207_23, zs_207_24, zs_207_27, zs_207_28, zs_207_29, zs_207_30, zs_207_31, zs_207_34, zs_207_35, zs_207_36, zs_207_39, zs_207_40, zs_207_41, zs_207_42, hm, zmf_6, zmf_7, zmf_8, zmf_9, zmf_10, h8, if_pos g1, a1, a2, a3, a4, b1, b2, s1, hkx, zup_ne, s2, nI_1']
    rw [zs_207_45]
    exact e
theorem e_207 {qs p0 : yP} (hm : zMd h m F qs) (hk : ynk qs) (hl : zLst h (m + 5) (m + 6) p0) : ∃ h', zcall zP sv (d + 1) 207 [.ref m] h = some (.inl none, h') ∧ zMd h' m (yup F 8 (nI qs.length)) qs ∧ zLst h' (m + 5) (m + 6) qs ∧ (∀ q, q ≠ m → q ≠ m + 5 → q ≠ m + 6 → h'.1 q = h.1 q) ∧ h'.2 = h.2 := by
  have h1 := hm.1
  unfold zMo at h1
  have h0 : zLst h (m + 5) (m + 6) (p0.take 0) := by
    rw [← List.take_append_drop 0 p0] at hl
    exact zLst_pre hl
  rw [List.take_zero] at h0
  have a0 : (zup h m (13, zMF m (yup (yup F 11 (nI qs.length)) 8 (nI qs.length)))).1 m = (13, zMF m (yup (yup F 11 (nI qs.length)) 8 (nI qs.length))) := zup_at
  obtain ⟨h', e, q1, q2, q3⟩ := e_207l (sv := sv) (d := d) hk qs.length 0 _ (Nat.zero_add _) a0 yup_eq (zLst_cg hm.2 (zup_ne (by omega)) (zup_ne (by omega))) (by rw [List.take_zero]; exact zLst_cg h0 (zup_ne (by omega)) (zup_ne (by omega)))
  rw [nI_0] at e
  have hc : yup (yup F 11 (nI qs.length)) 8 (nI qs.length) = yup (yup F 8 (nI qs.length)) 11 (nI qs.length) := yup_com (by decide)
  refine ⟨h', ?_, ⟨?_, zLst_cg hm.2 (by rw [q2 _ (by omega) (by omega), zup_ne (by omega)]) (by rw [q2 _ (by omega) (by omega), zup_ne (by omega)])⟩, q1, fun q p1 p2 p3 => by rw [q2 q p2 p3, zup_ne p1], q3⟩
  · rw [zc_207]
    simp (disch := exact znw_u) only [zs_207_0, zs_207_1, zs_207_2, zs_207_5, zs_207_8, zs_207_9, h1, zmf_11, yup_eq, zmp_8]
    exact e
  · unfold zMo
    rw [q2 m (by omega) (by omega), zup_at, hc]
end ZFN

/-- a formula's block in the model's table: N at b is its size, then its nodes -/
def ybk (N : List Int32) (b : Nat) (p : yP) : Prop := N[b]? = some (nI p.length) ∧ (∀ (k : Nat) (x : Int32 × Int32), p[k]? = some x → N[b + 1 + 2 * k]? = some x.1 ∧ N[b + 2 + 2 * k]? = some x.2) ∧ p.length ≤ 31 ∧ b + 63 ≤ 387 ∧ ynk p
def zTab (h : zH) (a : Nat) (N : List Int32) : Prop := h.1 a = (20, N.map Value.int) ∧ N.length = 387
theorem zTab_cg {h h' : zH} {a : Nat} {N : List Int32} (ht : zTab h a N) (h1 : h'.1 a = h.1 a) : zTab h' a N := ⟨h1.trans ht.1, ht.2⟩
theorem ynr_c {x : Int32} : (x.toUInt32 % 65536).toInt32 = ynr x := by
  unfold ynr
  rw [UInt32.toUInt32_toUInt16]
theorem nI_fb {f : Nat} : nI 9 + nI 63 * nI f = nI (9 + 63 * f) := by rw [nI_mulx, nI_add]
theorem nI_b1 {b j : Nat} : nI b + nI 1 + nI 2 * nI j = nI (b + 1 + 2 * j) := by rw [nI_mulx, nI_add, nI_add]
theorem nI_b2 {b j : Nat} : nI b + nI 2 + nI 2 * nI j = nI (b + 2 + 2 * j) := by rw [nI_mulx, nI_add, nI_add]
section ZLA
variable {sv : Nat → Value} {d : Nat} {m b : Nat} {F : Nat → Int32} {p : yP} {N : List Int32}
theorem e_206l (hb : ybk N b p) (h8 : F 8 = nI p.length) {l1 : Slot} : ∀ n j (h : zH), j + n = p.length → h.1 m = (13, zMF m F) → zTab h (m + 1) N → zLst h (m + 5) (m + 6) (p.take j) → ∃ h', zrun zP sv (zcall zP sv d) 206 20 [.val (.ref m), l1, .val (.int (nI b)), .val (.int (nI j))] [] h = some (.inl none, h') ∧ zLst h' (m + 5) (m + 6) p ∧ (∀ q, q ≠ m + 5 → q ≠ m + 6 → h'.1 q = h.1 q) ∧ h'.2 = h.2 := by
  intro n
  induction n with
  | zero =>
    intro j h hj hm hd hl
    obtain rfl : j = p.length := by omega
    rw [List.take_length] at hl
    refine ⟨h, ?_, hl, fun _ _ _ => rfl, rfl⟩
    simp only [zs_206_0, zs_206_2, zs_206_4, zs_206_5, zs_206_6, zs_206_7, zs_206_8, zs_206_9, zs_206_10, zs_206_13, zs_206_14, zs_206_15, zs_206_18, zs_206_19, zs_206_20, zs_206_21, zs_206_22, zs_206_25, zs_206_28, zs_206_29, zs_206_32, zs_206_33, zs_206_34, zs_206_37, zs_206_38, zs_206_39, zs_206_40, zs_206_41, zs_206_42, zs_206_43, zs_206_44, zs_206_45, zs_206_46, zs_206_47, zs_206_48, zs_206_51, zs_206_52, zs_206_53, zs_206_56, zs_206_57, zs_206_58, zs_206_59, zs_206_60, zs_206_61, zs_206_62, zs_206_63, zs_206_64, zs_206_65, zs_206_68, zs_206_71, hm, zmf_8, h8, Int32.lt_irrefl, ↓reduceIte]
  | succ n ih =>
    intro j h hj hm hd hl
    obtain ⟨x, hx⟩ : ∃ x, p[j]? = some x := ⟨_, List.getElem?_eq_getElem (by omega)⟩
    obtain ⟨c1, c2, c3, c4, c5⟩ := hb
    obtain ⟨a3, a4⟩ := c2 j x hx
    have a3' : ∀ Kv, zael (20, N.map Value.int) 20 (nI (b + 1 + 2 * j)) Kv = Kv (.int x.1) := fun Kv => zaelv (by rw [List.getElem?_map, a3]; rfl) (by omega)
    have a4' : ∀ Kv, zael (20, N.map Value.int) 20 (nI (b + 2 + 2 * j)) Kv = Kv (.int x.2) := fun Kv => zaelv (by rw [List.getElem?_map, a4]; rfl) (by omega)
    have hkx := c5 x (List.mem_of_getElem? hx)
    have hN := hd.1
    obtain ⟨A', B', b1, b2, b3, b4, b5, b6, b7⟩ := hl
    have hjl : (p.take j).length = j := by rw [List.length_take]; omega
    rw [hjl] at b5 b6
    have s1 : ∀ Kc : zC → zR, zaset (21, A'.map Value.int) 21 (nI j) (.int x.1) Kc = Kc (21, (A'.set j (ynr x.1)).map Value.int) := fun Kc => zsC (by omega) (by omega)
    have s2 : ∀ Kc : zC → zR, zaset (20, B'.map Value.int) 20 (nI j) (.int x.2) Kc = Kc (20, (B'.set j x.2).map Value.int) := fun Kc => zsI (by omega) (by omega)
    have htk : (p.take (j + 1)).length = j + 1 := by rw [List.length_take]; omega
    have w : zLst (zup (zup h (m + 5) (21, (A'.set j x.1).map Value.int)) (m + 6) (20, (B'.set j x.2).map Value.int)) (m + 5) (m + 6) (p.take (j + 1)) := by
      refine ⟨A'.set j x.1, B'.set j x.2, by rw [zup_ne (by omega), zup_at], zup_at, by rw [List.length_set, b3], by rw [List.length_set, b4], ?_, ?_, by rw [htk]; omega⟩
      · rw [htk, ytk_set b5 (by omega), List.take_add_one, hx, List.map_append]; rfl
      · rw [htk, ytk_set b6 (by omega), List.take_add_one, hx, List.map_append]; rfl
    obtain ⟨h', e, q1, q2, q3⟩ := ih (j + 1) _ (by omega) (by rw [zup_ne (by omega), zup_ne (by omega), hm]) (zTab_cg hd (by rw [zup_ne (by omega), zup_ne (by omega)])) w
    refine ⟨h', ?_, q1, fun q p1 p2 => by rw [q2 q p1 p2, zup_ne p2, zup_ne p1], q3⟩
    have g1 : nI j < nI p.length := nI_lt (by omega) (by omega)
    simp (disch := first | exact znw_i | omega) only [zs_206_0, zs_206_2, zs_206_4, zs_206_5, zs_206_6, zs_206_7, zs_206_8, zs_206_9, zs_206_10, zs_206_13, zs_206_14, zs_206_15, zs_206_18, zs_206_19, zs_206_20, zs_206_21, zs_206_22, zs_206_25, zs_206_28, zs_206_29, zs_206_32, zs_206_33, zs_206_34, zs_206_37, zs_206_38, zs_206_39, zs_206_40, zs_206_41, zs_206_42, zs_206_43, zs_206_44, zs_206_45, zs_206_46, zs_206_47, zs_206_48, zs_206_51, zs_206_52, zs_206_53, zs_206_56, zs_206_57, zs_206_58, zs_206_59, zs_206_60, zs_206_61, zs_206_62, zs_206_63, zs_206_64, zs_206_71, hm, zmf_0, zmf_6, zmf_7, zmf_8, h8, if_pos g1, hN, nI_mulx, nI_add, a3', a4', ynr_c, hkx, b1, b2, s1, zup_ne, s2]
    rw [zs_206_65, zs_206_68, nI_1']
    exact e
theorem e_206 {f : Nat} {p0 : yP} {h : zH} (hb : ybk N (9 + 63 * f) p) (hm : zMo h m F) (hN : zTab h (m + 1) N) (hl : zLst h (m + 5) (m + 6) p0) : ∃ h', zcall zP sv (d + 1) 206 [.ref m, .int (nI f)] h = some (.inl none, h') ∧ zMo h' m (yup F 8 (nI p.length)) ∧ zLst h' (m + 5) (m + 6) p ∧ (∀ q, q ≠ m → q ≠ m + 5 → q ≠ m + 6 → h'.1 q = h.1 q) ∧ h'.2 = h.2 := by
  unfold zMo at hm
  have h0 : zLst h (m + 5) (m + 6) (p.take 0) := by
    rw [List.take_zero]
    exact zLst_pre (ps := []) (qs := p0) hl
  have c1 : ∀ Kv, zael (20, N.map Value.int) 20 (nI (9 + 63 * f)) Kv = Kv (.int (nI p.length)) := fun Kv => zaelv (by rw [List.getElem?_map, hb.1]; rfl) (by have := hb.2.2.2.1; omega)
  obtain ⟨h', e, q1, q2, q3⟩ := e_206l (sv := sv) (d := d) (F := yup F 8 (nI p.length)) (l1 := .val (.int (nI f))) hb yup_eq p.length 0 (zup h m (13, zMF m (yup F 8 (nI p.length)))) (Nat.zero_add _) zup_at (zTab_cg hN (zup_ne (by omega))) (zLst_cg h0 (zup_ne (by omega)) (zup_ne (by omega)))
  rw [nI_0] at e
  refine ⟨h', ?_, ?_, q1, fun q p1 p2 p3 => by rw [q2 q p2 p3, zup_ne p1], q3⟩
  · rw [zc_206]
    simp (disch := exact znw_u) only [zs_206_0, zs_206_2, zs_206_4, zs_206_5, zs_206_6, zs_206_7, zs_206_8, zs_206_9, zs_206_10, zs_206_13, zs_206_14, zs_206_15, zs_206_18, zs_206_19, nI_fb, hm, zmf_0, hN.1, c1, zmp_8]
    exact e
  · unfold zMo
    rw [q2 m (by omega) (by omega), zup_at]
/-- lays: what is looked at becomes a block; the table's other places stay -/
def yaw (N N' : List Int32) (b : Nat) : Prop := ∀ i, i < b ∨ b + 63 ≤ i → N'[i]? = N[i]?
theorem yaw_set {N N' : List Int32} {b i : Nat} {x : Int32} (h : yaw N N' b) (h1 : b ≤ i) (h2 : i < b + 63) : yaw N (N'.set i x) b := fun k hk => by
  rw [List.getElem?_set_ne (by omega)]
  exact h k hk
theorem e_208z (hb : b + 63 ≤ 387) {l1 : Slot} {C : Nat → List Value → zH → zR} {N0 : List Int32} : ∀ n j (h : zH) (N : List Int32), j + n = 63 → h.1 m = (13, zMF m F) → zTab h (m + 1) N → yaw N0 N b → ∃ (h' : zH) (N' : List Int32), zrun zP sv C 208 10 [.val (.ref m), l1, .val (.int (nI b)), .val (.int (nI j))] [] h = zrun zP sv C 208 31 [.val (.ref m), l1, .val (.int (nI b)), .val (.int (nI 63))] [] h' ∧ zTab h' (m + 1) N' ∧ yaw N0 N' b ∧ (∀ q, q ≠ m + 1 → h'.1 q = h.1 q) ∧ h'.2 = h.2 := by
  intro n
  induction n with
  | zero =>
    intro j h N hj hm hN hw
    obtain rfl : j = 63 := by omega
    refine ⟨h, N, ?_, hN, hw, fun _ _ => rfl, rfl⟩
    simp only [zs_208_10, zs_208_11, zs_208_13, Int32.lt_irrefl, ↓reduceIte]
  | succ n ih =>
    intro j h N hj hm hN hw
    have g1 : nI j < nI 63 := nI_lt (by omega) (by omega)
    have hN1 := hN.1
    have hN2 := hN.2
    have s1 : ∀ Kc : zC → zR, zaset (20, N.map Value.int) 20 (nI (b + j)) (.int 0) Kc = Kc (20, (N.set (b + j) 0).map Value.int) := fun Kc => zsI (by omega) (by omega)
    obtain ⟨h', N', e, a1, a2, a3, a4⟩ := ih (j + 1) (zup h (m + 1) (20, (N.set (b + j) 0).map Value.int)) (N.set (b + j) 0) (by omega) (by rw [zup_ne (by omega), hm]) ⟨zup_at, by rw [List.length_set, hN2]⟩ (yaw_set hw (by omega) (by omega))
    refine ⟨h', N', ?_, a1, a2, fun q hq => by rw [a3 q hq, zup_ne hq], a4⟩
    rw [← e]
    have e0 : zrun zP sv C 208 25 [.val (.ref m), l1, .val (.int (nI b)), .val (.int (nI j))] [] (zup h (m + 1) (20, (N.set (b + j) 0).map Value.int)) = zrun zP sv C 208 10 [.val (.ref m), l1, .val (.int (nI b)), .val (.int (nI (j + 1)))] [] (zup h (m + 1) (20, (N.set (b + j) 0).map Value.int)) := by rw [zs_208_25, zs_208_28, nI_1']
    rw [← e0]
    simp (disch := first | exact znw_i | omega) only [zs_208_10, zs_208_11, zs_208_13, zs_208_16, zs_208_17, zs_208_20, zs_208_21, zs_208_22, zs_208_23, zs_208_24, if_pos g1, hm, zmf_0, hN1, nI_add, s1]
theorem e_208l (h8 : F 8 = nI p.length) (hp : p.length ≤ 31) (hb : b + 63 ≤ 387) (hk : ynk p) {l1 : Slot} {N0 : List Int32} : ∀ n j (h : zH) (N : List Int32), j + n = p.length → h.1 m = (13, zMF m F) → zLst h (m + 5) (m + 6) p → zTab h (m + 1) N → yaw N0 N b → N[b]? = some (nI p.length) → (∀ (k : Nat) (x : Int32 × Int32), k < j → p[k]? = some x → N[b + 1 + 2 * k]? = some x.1 ∧ N[b + 2 + 2 * k]? = some x.2) → ∃ (h' : zH) (N' : List Int32), zrun zP sv (zcall zP sv d) 208 43 [.val (.ref m), l1, .val (.int (nI b)), .val (.int (nI j))] [] h = some (.inl none, h') ∧ zTab h' (m + 1) N' ∧ yaw N0 N' b ∧ ybk N' b p ∧ (∀ q, q ≠ m + 1 → h'.1 q = h.1 q) ∧ h'.2 = h.2 := by
  intro n
  induction n with
  | zero =>
    intro j h N hj hm hl hN hw hn hpre
    obtain rfl : j = p.length := by omega
    refine ⟨h, N, ?_, hN, hw, ⟨hn, fun k x hx => hpre k x (List.getElem?_eq_some_iff.mp hx).1 hx, hp, hb, hk⟩, fun _ _ => rfl, rfl⟩
    simp only [zs_208_0, zs_208_2, zs_208_4, zs_208_5, zs_208_6, zs_208_7, zs_208_8, zs_208_9, zs_208_10, zs_208_11, zs_208_13, zs_208_16, zs_208_17, zs_208_20, zs_208_21, zs_208_22, zs_208_23, zs_208_24, zs_208_25, zs_208_28, zs_208_31, zs_208_32, zs_208_35, zs_208_36, zs_208_37, zs_208_40, zs_208_41, zs_208_42, zs_208_43, zs_208_44, zs_208_45, zs_208_48, zs_208_51, zs_208_52, zs_208_55, zs_208_56, zs_208_57, zs_208_58, zs_208_59, zs_208_60, zs_208_61, zs_208_62, zs_208_63, zs_208_66, zs_208_67, zs_208_68, zs_208_69, zs_208_70, zs_208_73, zs_208_74, zs_208_75, zs_208_76, zs_208_77, zs_208_78, zs_208_79, zs_208_80, zs_208_81, zs_208_84, zs_208_85, zs_208_86, zs_208_87, zs_208_90, zs_208_93, hm, zmf_8, h8, Int32.lt_irrefl, ↓reduceIte]
  | succ n ih =>
    intro j h N hj hm hl hN hw hn hpre
    obtain ⟨x, hx⟩ : ∃ x, p[j]? = some x := ⟨_, List.getElem?_eq_getElem (by omega)⟩
    obtain ⟨A, B, a1, a2, a3, a4, a5⟩ := e_look (k := x.1) (v := x.2) hl hx
    have hN1 := hN.1
    have hN2 := hN.2
    have s1 : ∀ Kc : zC → zR, zaset (20, N.map Value.int) 20 (nI (b + 1 + 2 * j)) (.int x.1) Kc = Kc (20, (N.set (b + 1 + 2 * j) x.1).map Value.int) := fun Kc => zsI (by omega) (by omega)
    have s2 : ∀ Kc : zC → zR, zaset (20, (N.set (b + 1 + 2 * j) x.1).map Value.int) 20 (nI (b + 2 + 2 * j)) (.int x.2) Kc = Kc (20, ((N.set (b + 1 + 2 * j) x.1).set (b + 2 + 2 * j) x.2).map Value.int) := fun Kc => zsI (by rw [List.length_set]; omega) (by rw [List.length_set]; omega)
    obtain ⟨h', N', e, q1, q2, q3, q4, q5⟩ := ih (j + 1) (zup (zup h (m + 1) (20, (N.set (b + 1 + 2 * j) x.1).map Value.int)) (m + 1) (20, ((N.set (b + 1 + 2 * j) x.1).set (b + 2 + 2 * j) x.2).map Value.int)) _ (by omega) (by rw [zup_ne (by omega), zup_ne (by omega), hm]) (zLst_cg hl (by rw [zup_ne (by omega), zup_ne (by omega)]) (by rw [zup_ne (by omega), zup_ne (by omega)])) ⟨zup_at, by rw [List.length_set, List.length_set, hN2]⟩ (yaw_set (yaw_set hw (by omega) (by omega)) (by omega) (by omega)) (by rw [List.getElem?_set_ne (by omega), List.getElem?_set_ne (by omega), hn]) (by
      intro k y hk1 hy
      by_cases hkj : k = j
      · subst hkj
        rw [hx] at hy
        obtain rfl := Option.some.inj hy
        exact ⟨by rw [List.getElem?_set_ne (by omega), List.getElem?_set_self (by omega)], by rw [List.getElem?_set_self (by rw [List.length_set]; omega)]⟩
      · obtain ⟨z1, z2⟩ := hpre k y (by omega) hy
        exact ⟨by rw [List.getElem?_set_ne (by omega), List.getElem?_set_ne (by omega), z1], by rw [List.getElem?_set_ne (by omega), List.getElem?_set_ne (by omega), z2]⟩)
    refine ⟨h', N', ?_, q1, q2, q3, fun q p1 => by rw [q4 q p1, zup_ne p1, zup_ne p1], q5⟩
    have g1 : nI j < nI p.length := nI_lt (by omega) (by omega)
    simp (disch := first | exact znw_i | omega) only [zs_208_0, zs_208_2, zs_208_4, zs_208_5, zs_208_6, zs_208_7, zs_208_8, zs_208_9, zs_208_11, zs_208_13, zs_208_16, zs_208_17, zs_208_20, zs_208_21, zs_208_22, zs_208_23, zs_208_24, zs_208_25, zs_208_28, zs_208_31, zs_208_32, zs_208_35, zs_208_36, zs_208_37, zs_208_40, zs_208_41, zs_208_42, zs_208_43, zs_208_44, zs_208_45, zs_208_48, zs_208_51, zs_208_52, zs_208_55, zs_208_56, zs_208_57, zs_208_58, zs_208_59, zs_208_60, zs_208_61, zs_208_62, zs_208_63, zs_208_66, zs_208_67, zs_208_68, zs_208_69, zs_208_70, zs_208_73, zs_208_74, zs_208_75, zs_208_76, zs_208_77, zs_208_78, zs_208_79, zs_208_80, zs_208_81, zs_208_84, zs_208_85, zs_208_86, zs_208_93, hm, zmf_0, zmf_6, zmf_7, zmf_8, h8, if_pos g1, hN1, nI_mulx, nI_add, a1, a2, a3, a4, s1, zup_ne, zup_at, s2]
    rw [zs_208_87, zs_208_90, nI_1']
    exact e
theorem e_208 {f : Nat} {h : zH} (hf : f < 6) (hm : zMo h m F) (h8 : F 8 = nI p.length) (hp : p.length ≤ 31) (hk : ynk p) (hl : zLst h (m + 5) (m + 6) p) (hN : zTab h (m + 1) N) : ∃ (h' : zH) (N' : List Int32), zcall zP sv (d + 1) 208 [.ref m, .int (nI f)] h = some (.inl none, h') ∧ zTab h' (m + 1) N' ∧ yaw N N' (9 + 63 * f) ∧ ybk N' (9 + 63 * f) p ∧ (∀ q, q ≠ m + 1 → h'.1 q = h.1 q) ∧ h'.2 = h.2 := by
  unfold zMo at hm
  rw [zc_208]
  simp (disch := exact znw_u) only [zs_208_0, zs_208_2, zs_208_4, zs_208_5, zs_208_6, zs_208_7, zs_208_8, zs_208_9, nI_fb]
  rw [← nI_0]
  obtain ⟨h1, N1, e1, a1, a2, a3, a4⟩ := e_208z (sv := sv) (C := zcall zP sv d) (m := m) (b := 9 + 63 * f) (F := F) (by omega) (l1 := .val (.int (nI f))) (N0 := N) 63 0 h N (Nat.zero_add _) hm hN (fun _ _ => rfl)
  have b1 : h1.1 m = (13, zMF m F) := by rw [a3 m (by omega), hm]
  have a1' := a1.1
  have a1'' := a1.2
  have s1 : ∀ Kc : zC → zR, zaset (20, N1.map Value.int) 20 (nI (9 + 63 * f)) (.int (nI p.length)) Kc = Kc (20, (N1.set (9 + 63 * f) (nI p.length)).map Value.int) := fun Kc => zsI (by omega) (by omega)
  obtain ⟨h', N', e, q1, q2, q3, q4, q5⟩ := e_208l (sv := sv) (d := d) (m := m) (b := 9 + 63 * f) (F := F) (p := p) h8 hp (by omega) hk (l1 := .val (.int (nI f))) (N0 := N) p.length 0 (zup h1 (m + 1) (20, (N1.set (9 + 63 * f) (nI p.length)).map Value.int)) _ (Nat.zero_add _) (by rw [zup_ne (by omega), b1]) (zLst_cg hl (by rw [zup_ne (by omega), a3 _ (by omega)]) (by rw [zup_ne (by omega), a3 _ (by omega)])) ⟨zup_at, by rw [List.length_set, a1'']⟩ (yaw_set a2 (by omega) (by omega)) (by rw [List.getElem?_set_self (by omega)]) (fun k x hk => absurd hk (Nat.not_lt_zero k))
  refine ⟨h', N', ?_, q1, q2, q3, fun q p1 => by rw [q4 q p1, zup_ne p1, a3 q p1], by rw [q5]; exact a4⟩
  rw [e1]
  simp (disch := exact znw_i) only [zs_208_31, zs_208_32, zs_208_35, zs_208_36, zs_208_37, zs_208_40, zs_208_41, zs_208_42, b1, zmf_0, zmf_8, h8, a1', s1, ← nI_0]
  exact e
end ZLA

/-- the model's table stands for A -/
def yNow (N : List Int32) (A : yA) : Prop := N.length = 387 ∧ N[0]? = some (nI A.1.length) ∧ N[1]? = some A.2.2.1 ∧ N[2]? = some A.2.2.2 ∧ (∀ (v : Nat) (x : Int32), A.2.1[v]? = some x → N[3 + v]? = some x) ∧ ∀ (i : Nat) (t : yT), A.1[i]? = some t → ybk N (9 + 63 * i) (ypr t)
theorem ybk_of {N N' : List Int32} {b : Nat} {p : yP} (hb : ybk N b p) (hw : ∀ i, b ≤ i → i < b + 63 → N'[i]? = N[i]?) : ybk N' b p := by
  obtain ⟨c1, c2, c3, c4, c5⟩ := hb
  refine ⟨by rw [hw b (by omega) (by omega), c1], fun k x hx => ?_, c3, c4, c5⟩
  have hk := (List.getElem?_eq_some_iff.mp hx).1
  obtain ⟨z1, z2⟩ := c2 k x hx
  exact ⟨by rw [hw _ (by omega) (by omega), z1], by rw [hw _ (by omega) (by omega), z2]⟩
theorem yNow_set {N N' : List Int32} {A : yA} {i : Nat} {t : yT} (hn : yNow N A) (hl : N'.length = 387) (hw : yaw N N' (9 + 63 * i)) (hb : ybk N' (9 + 63 * i) (ypr t)) (hA : A.2.1.length = 6) : yNow N' (A.1.set i t, A.2) := by
  obtain ⟨c1, c2, c3, c4, c5, c6⟩ := hn
  refine ⟨hl, by rw [hw 0 (by omega), c2]; show _ = some (nI (A.1.set i t).length); rw [List.length_set], by rw [hw 1 (by omega), c3], by rw [hw 2 (by omega), c4], fun v x hx => ?_, fun k u hu => ?_⟩
  · have hv := (List.getElem?_eq_some_iff.mp hx).1
    have hv2 : v < 6 := by rw [← hA]; exact hv
    rw [hw _ (by omega)]
    exact c5 v x hx
  · by_cases hk : k = i
    · subst hk
      obtain ⟨z1, z2⟩ := List.getElem?_eq_some_iff.mp hu
      rw [List.getElem_set_self] at z2
      rw [← z2]
      exact hb
    · have hu' : A.1[k]? = some u := by
        rw [← hu]
        exact (List.getElem?_set_ne (fun q => hk q.symm)).symm
      exact ybk_of (c6 k u hu') (fun j j1 j2 => hw j (by omega))
theorem yNow_app {N N' : List Int32} {A : yA} {t : yT} (hn : yNow N A) (hl : N'.length = 387) (hw : yaw N N' (9 + 63 * A.1.length)) (hb : ybk N' (9 + 63 * A.1.length) (ypr t)) (hA : A.2.1.length = 6) : yNow (N'.set 0 (nI (A.1.length + 1))) (A.1 ++ [t], A.2) := by
  obtain ⟨c1, c2, c3, c4, c5, c6⟩ := hn
  have hx : ∀ j, j ≠ 0 → (N'.set 0 (nI (A.1.length + 1)))[j]? = N'[j]? := fun j hj => List.getElem?_set_ne (fun q => hj q.symm)
  refine ⟨by rw [List.length_set, hl], by rw [List.getElem?_set_self (by omega)]; show _ = some (nI (A.1 ++ [t]).length); rw [List.length_append]; rfl, by rw [hx 1 (by omega), hw 1 (by omega), c3], by rw [hx 2 (by omega), hw 2 (by omega), c4], fun v x hx2 => ?_, fun k u hu => ?_⟩
  · have hv := (List.getElem?_eq_some_iff.mp hx2).1
    have hv2 : v < 6 := by rw [← hA]; exact hv
    rw [hx _ (by omega), hw _ (by omega)]
    exact c5 v x hx2
  · by_cases hk : k < A.1.length
    · have hu' : A.1[k]? = some u := by
        rw [← hu]
        exact (List.getElem?_append_left hk).symm
      exact ybk_of (c6 k u hu') (fun j j1 j2 => by rw [hx _ (by omega), hw j (by omega)])
    · have z := (List.getElem?_eq_some_iff.mp hu).1
      have z1 : (A.1 ++ [t]).length = A.1.length + 1 := by rw [List.length_append]; rfl
      have z2 : k = A.1.length := by
        have z' : k < (A.1 ++ [t]).length := z
        omega
      subst z2
      have hu2 : (A.1 ++ [t])[A.1.length]? = some u := hu
      rw [List.getElem?_concat_length] at hu2
      obtain rfl := Option.some.inj hu2
      exact ybk_of hb (fun j j1 j2 => hx j (by omega))
theorem yNow_rem {N : List Int32} {A : yA} {x : Int32} (hn : yNow N A) : yNow (N.set 2 x) (A.1, A.2.1, A.2.2.1, x) := by
  obtain ⟨c1, c2, c3, c4, c5, c6⟩ := hn
  exact ⟨by rw [List.length_set, c1], by rw [List.getElem?_set_ne (by omega), c2], by rw [List.getElem?_set_ne (by omega), c3], by rw [List.getElem?_set_self (by omega)], fun v x hx => by rw [List.getElem?_set_ne (by omega)]; exact c5 v x hx, fun k u hu => ybk_of (c6 k u hu) (fun j j1 j2 => List.getElem?_set_ne (by omega))⟩
theorem yNow_reg {N : List Int32} {A : yA} {x : Int32} (hn : yNow N A) : yNow (N.set 1 x) (A.1, A.2.1, x, A.2.2.2) := by
  obtain ⟨c1, c2, c3, c4, c5, c6⟩ := hn
  exact ⟨by rw [List.length_set, c1], by rw [List.getElem?_set_ne (by omega), c2], by rw [List.getElem?_set_self (by omega)], by rw [List.getElem?_set_ne (by omega), c4], fun v x hx => by rw [List.getElem?_set_ne (by omega)]; exact c5 v x hx, fun k u hu => ybk_of (c6 k u hu) (fun j j1 j2 => List.getElem?_set_ne (by omega))⟩
theorem yNow_var {N : List Int32} {A : yA} {x : Int32} {v : Nat} (hn : yNow N A) (hA : A.2.1.length = 6) (hv : v < 6) : yNow (N.set (3 + v) x) (A.1, A.2.1.set v x, A.2.2) := by
  obtain ⟨c1, c2, c3, c4, c5, c6⟩ := hn
  refine ⟨by rw [List.length_set, c1], by rw [List.getElem?_set_ne (by omega), c2], by rw [List.getElem?_set_ne (by omega), c3], by rw [List.getElem?_set_ne (by omega), c4], fun k y hy => ?_, fun k u hu => ybk_of (c6 k u hu) (fun j j1 j2 => List.getElem?_set_ne (by omega))⟩
  by_cases hk : k = v
  · subst hk
    obtain ⟨z1, z2⟩ := List.getElem?_eq_some_iff.mp hy
    rw [List.getElem_set_self] at z2
    rw [← z2, List.getElem?_set_self (by omega)]
  · have hy' : A.2.1[k]? = some y := by
      rw [← hy]
      exact (List.getElem?_set_ne (fun q => hk q.symm)).symm
    rw [List.getElem?_set_ne (by omega)]
    exact c5 k y hy'
/-- cells of the model that a call may use up -/
def zArr (h : zH) (a kd n : Nat) : Prop := ∃ A : List Int32, h.1 a = (kd, A.map Value.int) ∧ A.length = n
def zScm (h : zH) (m : Nat) : Prop := (∃ p, zLst h (m + 5) (m + 6) p) ∧ (∃ p, zLst h (m + 7) (m + 8) p) ∧ zSF h m ∧ zArr h (m + 11) 20 700 ∧ zArr h (m + 12) 21 700 ∧ zArr h (m + 13) 20 700 ∧ zArr h (m + 14) 20 700 ∧ zArr h (m + 15) 20 700
theorem zArr_cg {h h' : zH} {a kd n : Nat} (ha : zArr h a kd n) (h1 : h'.1 a = h.1 a) : zArr h' a kd n := by
  obtain ⟨A, a1, a2⟩ := ha
  exact ⟨A, h1.trans a1, a2⟩
/-- the part of the model that a change reaches; F: its numbers; A: what it stands for -/
def zWk (h : zH) (m : Nat) (F : Nat → Int32) (A : yA) : Prop := zMo h m F ∧ (∃ N, zTab h (m + 1) N ∧ yNow N A) ∧ zScm h m
def yff (F F' : Nat → Int32) : Prop := F' 3 = F 3 ∧ F' 5 = F 5 ∧ F' 24 = F 24 ∧ F' 26 = F 26 ∧ F' 29 = F 29 ∧ F' 31 = F 31
theorem yff_rfl {F : Nat → Int32} : yff F F := ⟨rfl, rfl, rfl, rfl, rfl, rfl⟩
theorem yff_tr {F F' F'' : Nat → Int32} (h1 : yff F F') (h2 : yff F' F'') : yff F F'' := ⟨h2.1.trans h1.1, h2.2.1.trans h1.2.1, h2.2.2.1.trans h1.2.2.1, h2.2.2.2.1.trans h1.2.2.2.1, h2.2.2.2.2.1.trans h1.2.2.2.2.1, h2.2.2.2.2.2.trans h1.2.2.2.2.2⟩
theorem yff_up {F : Nat → Int32} {j : Nat} {x : Int32} (hj : j = 8 ∨ j = 11 ∨ j = 19 ∨ j = 20 ∨ j = 21 ∨ j = 22 ∨ j = 27 ∨ j = 28 ∨ j = 30) : yff F (yup F j x) := ⟨yup_ne (by omega), yup_ne (by omega), yup_ne (by omega), yup_ne (by omega), yup_ne (by omega), yup_ne (by omega)⟩
def zwf (m : Nat) (h h' : zH) : Prop := (∀ q, q ≠ m → q ≠ m + 1 → (q < m + 5 ∨ m + 16 ≤ q) → h'.1 q = h.1 q) ∧ h'.2 = h.2
theorem zwf_rfl {m : Nat} {h : zH} : zwf m h h := ⟨fun _ _ _ _ => rfl, rfl⟩
theorem zwf_tr {m : Nat} {h h' h'' : zH} (h1 : zwf m h h') (h2 : zwf m h' h'') : zwf m h h'' := ⟨fun q a b c => (h2.1 q a b c).trans (h1.1 q a b c), h2.2.trans h1.2⟩
section ZMA
variable {sv : Nat → Value} {d : Nat} {h : zH} {m : Nat} {F : Nat → Int32} {A : yA} {N : List Int32}
theorem e_199 {x a b : Int32} : zcall zP sv (d + 1) 199 [.int x, .int a, .int b] h = some (.inl (some (.int (yb (decide (¬ x < a) && decide (¬ b < x))))), h) := by
  by_cases h1 : x < a
  · simp only [zc_199, zs_199_0, zs_199_1, zs_199_2, zs_199_5, zs_199_6, zs_199_7, zs_199_10, zs_199_11, zs_199_14, zs_199_15, zgd_t, zty_50, h1, not_true, decide_false, Bool.false_and, yb_f, ↓reduceIte]
  · by_cases h2 : b < x
    · simp only [zc_199, zs_199_0, zs_199_1, zs_199_2, zs_199_5, zs_199_6, zs_199_7, zs_199_10, zs_199_11, zs_199_14, zs_199_15, zgd_t, zty_50, h1, h2, not_true, not_false_eq_true, decide_false, decide_true, Bool.and_false, yb_f, ↓reduceIte]
    · simp only [zc_199, zs_199_0, zs_199_1, zs_199_2, zs_199_5, zs_199_6, zs_199_7, zs_199_10, zs_199_11, zs_199_14, zs_199_15, zgd_t, zty_51, h1, h2, not_false_eq_true, decide_true, Bool.and_self, yb_t, ↓reduceIte]
theorem zty_yb {b : Bool} : zty 5 (.int (yb b)) = true := by cases b <;> rfl
theorem e_204 {c : Int32} : zcall zP sv (d + 2) 204 [.int c] h = some (.inl (some (.int (yb (ylet c)))), h) := by
  simp only [zc_204, zs_204_0, zs_204_1, zs_204_3, zs_204_5, zs_204_8, e_199, zbk_v, zts_s, zty_yb, zgd_t, ylet]
theorem e_203 {x : Int32} (hm : zMo h m F) (hN : zTab h (m + 1) N) (hn : yNow N A) : zcall zP sv (d + 2) 203 [.ref m, .int x] h = some (.inl (some (.int (yb (decide (¬ x < 0) && decide (¬ nI A.1.length - nI 1 < x))))), h) := by
  unfold zMo at hm
  have hN1 := hN.1
  have e0 : ∀ Kv, zael (20, N.map Value.int) 20 0 Kv = Kv (.int (nI A.1.length)) := fun Kv => by
    rw [← nI_0]
    exact zaelv (by rw [List.getElem?_map, hn.2.1]; rfl) (by decide)
  simp only [zc_203, zs_203_0, zs_203_1, zs_203_2, zs_203_3, zs_203_6, zs_203_7, zs_203_8, zs_203_9, zs_203_10, zs_203_13, hm, zmf_0, hN1, e0, e_199, zbk_v, zts_s, zty_yb, zgd_t]
theorem e_203t {i : Nat} (hm : zMo h m F) (hN : zTab h (m + 1) N) (hn : yNow N A) (hi : i < A.1.length) (hA : A.1.length ≤ 6) : zcall zP sv (d + 2) 203 [.ref m, .int (nI i)] h = some (.inl (some (.int (nI 1))), h) := by
  obtain ⟨n, hn2⟩ : ∃ n, A.1.length = n + 1 := ⟨A.1.length - 1, by omega⟩
  rw [e_203 hm hN hn, decide_eq_true (nI_pos (by omega)), hn2, nI_m, decide_eq_true (nI_nlt (by omega) (by omega))]
  rfl
theorem e_201 {x : Int32} (hm : zMo h m F) : zcall zP sv (d + 1) 201 [.ref m, .int x] h = some (.inl (some (.int 0)), zup h m (13, zMF m (yup F 30 x))) := by
  unfold zMo at hm
  simp only [zc_201, zs_201_0, zs_201_1, zs_201_2, zs_201_5, zs_201_6, hm, zmp_30]
theorem e_198 {x : Int32} (hm : zMo h m F) : zcall zP sv (d + 1) 198 [.ref m, .int x] h = some (.inl (some (.int 0)), zup h m (13, zMF m (yup F 31 x))) := by
  unfold zMo at hm
  simp only [zc_198, zs_198_0, zs_198_1, zs_198_2, zs_198_5, zs_198_6, hm, zmp_31]
end ZMA

section ZMB
variable {sv : Nat → Value} {d : Nat} {h : zH} {m : Nat} {F : Nat → Int32} {A : yA} {N : List Int32}
theorem zScm_of {h h' : zH} {m : Nat} {p q : yP} (hs : zScm h m) (h1 : zLst h' (m + 5) (m + 6) p) (h2 : zLst h' (m + 7) (m + 8) q) (hk : ∀ a, m + 9 ≤ a → h'.1 a = h.1 a) : zScm h' m := by
  obtain ⟨_, _, c1, c2, c3, c4, c5, c6⟩ := hs
  exact ⟨⟨p, h1⟩, ⟨q, h2⟩, zSF_cg c1 (hk _ (by omega)) (hk _ (by omega)), zArr_cg c2 (hk _ (by omega)), zArr_cg c3 (hk _ (by omega)), zArr_cg c4 (hk _ (by omega)), zArr_cg c5 (hk _ (by omega)), zArr_cg c6 (hk _ (by omega))⟩
theorem zLst_0 {h : zH} {a b : Nat} {p : yP} (hl : zLst h a b p) : zLst h a b [] := zLst_pre (ps := []) (qs := p) hl
theorem nI_subn {a b : Nat} (h : b ≤ a) : nI a - nI b = nI (a - b) := by
  obtain ⟨c, rfl⟩ : ∃ c, a = b + c := ⟨a - b, by omega⟩
  rw [nI_sub', Nat.add_sub_cancel_left]
/-- simplified -/
theorem e_238 {i : Nat} {t : yT} (hw : zWk h m F A) (hA : yAok A) (hi : A.1[i]? = some t) : ∃ (h' : zH) (F' : Nat → Int32), zcall zP sv (d + 20) 238 [.ref m, .int (nI i)] h = some (.inl (some (.int 0)), h') ∧ zWk h' m F' (A.1.set i (ysim t), A.2.1, A.2.2.1, A.2.2.2 + nI (ysz t - ysz (ysim t))) ∧ F' 30 = nI (ysz t - ysz (ysim t)) ∧ yff F F' ∧ zwf m h h' := by
  obtain ⟨hm, ⟨N, hN, hn⟩, hs⟩ := hw
  have hs0 := hs
  obtain ⟨⟨p0, l5⟩, ⟨p1, l7⟩, _⟩ := hs
  have hil := (List.getElem?_eq_some_iff.mp hi).1
  have hA1 := hA.1
  have i6 : i < 6 := by omega
  obtain ⟨t1, t2, t3⟩ := hA.2.1 t (List.mem_of_getElem? hi)
  have hst := ysz_ysim t
  have hdt := ydp_ysim t
  have hlt := ypr_len t
  have hls := ypr_len (ysim t)
  have e1 := e_203t (sv := sv) (d := d + 17) hm hN hn hil hA1
  have hN2 := hn.2.2.2.1
  obtain ⟨h1, e2, a1, a2, a3, a4⟩ := e_206 (sv := sv) (d := d + 18) (hn.2.2.2.2.2 i t hi) hm hN l5
  have a1' := a1
  unfold zMo at a1'
  rw [hlt] at a1 a1'
  -- many := 0
  have hmd : zMd (zup h1 m (13, zMF m (yup (yup F 8 (nI (ysz t))) 11 0))) m (yup F 8 (nI (ysz t))) [] := ⟨by unfold zMo; rw [zup_at]; rfl, zLst_cg (zLst_0 l7) (by rw [zup_ne (by omega), a3 _ (by omega) (by omega) (by omega)]) (by rw [zup_ne (by omega), a3 _ (by omega) (by omega) (by omega)])⟩
  have hlk : zLst (zup h1 m (13, zMF m (yup (yup F 8 (nI (ysz t))) 11 0))) (m + 5) (m + 6) ([] ++ ypr t ++ []) := by
    rw [List.append_nil, List.nil_append]
    exact zLst_cg a2 (zup_ne (by omega)) (zup_ne (by omega))
  obtain ⟨h3, e3, b1, b2⟩ := e_222 (sv := sv) t t1 (d + 19) [] [] [] _ (by omega) hlk hmd ynk_nil (by show 0 + ysz t ≤ 700; omega)
  rw [List.nil_append] at b1
  have hkn : ynk (ypr (ysim t)) := ynk_ypr _ (Or.inr (ytw_ysim t t1))
  obtain ⟨h4, e4, c1, c2, c3, c4⟩ := e_207 (sv := sv) (d := d + 18) b1 hkn (zLst_fm hlk b2)
  rw [hls] at c1
  have hN4 : zTab h4 (m + 1) N := zTab_cg hN (by rw [c3 _ (by omega) (by omega) (by omega), b2.1 _ (by omega) (by omega) (by omega), zup_ne (by omega), a3 _ (by omega) (by omega) (by omega)])
  have c1m := c1.1
  have c1m' := c1m
  unfold zMo at c1m'
  obtain ⟨h5, N', e5, d1, d2, d3, d4, d5⟩ := e_208 (sv := sv) (d := d + 18) (p := ypr (ysim t)) i6 c1m (by rw [hls, yup_ne (by omega), yup_eq]) (by omega) hkn c2 hN4
  have d1' := d1.1
  have d1l := d1.2
  have m5 : h5.1 m = (13, zMF m (yup (yup (yup F 8 (nI (ysz t))) 8 (nI (ysz (ysim t)))) 11 (nI (ypr (ysim t)).length))) := by
    rw [d4 m (by omega)]
    exact c1m'
  have g2 : ∀ Kv, zael (20, N'.map Value.int) 20 (nI 2) Kv = Kv (.int A.2.2.2) := fun Kv => zaelv (by rw [List.getElem?_map, d2 2 (by omega), hN2]; rfl) (by decide)
  have s2 : ∀ Kc : zC → zR, zaset (20, N'.map Value.int) 20 (nI 2) (.int (A.2.2.2 + nI (ysz t - ysz (ysim t)))) Kc = Kc (20, (N'.set 2 (A.2.2.2 + nI (ysz t - ysz (ysim t)))).map Value.int) := fun Kc => zsI (by omega) (by omega)
  have fr : ∀ q, q ≠ m → q ≠ m + 1 → q ≠ m + 5 → q ≠ m + 6 → q ≠ m + 7 → q ≠ m + 8 → h5.1 q = h.1 q := fun q n0 n1 n5 n6 n7 n8 => by
    rw [d4 q n1, c3 q n0 n5 n6, b2.1 q n0 n7 n8, zup_ne n0, a3 q n0 n5 n6]
  refine ⟨zup (zup h5 (m + 1) (20, (N'.set 2 (A.2.2.2 + nI (ysz t - ysz (ysim t)))).map Value.int)) m (13, zMF m (yup (yup (yup (yup F 8 (nI (ysz t))) 8 (nI (ysz (ysim t)))) 11 (nI (ypr (ysim t)).length)) 30 (nI (ysz t - ysz (ysim t))))), _, ?_, ⟨zMo_up, ⟨N'.set 2 (A.2.2.2 + nI (ysz t - ysz (ysim t))), ⟨by rw [zup_ne (by omega), zup_at], by rw [List.length_set, d1l]⟩, yNow_rem (yNow_set hn d1l d2 d3 hA.2.2)⟩, ?_⟩, yup_eq, ?_, ?_⟩
  · have hrc : ∀ X : zR, zrc (h.1 m) 13 X = X := fun X => zMo_rc hm
    have hr1 : ∀ X : zR, zrc (h1.1 m) 13 X = X := fun X => zMo_rc a1
    have hr3 : ∀ X : zR, zrc (h3.1 m) 13 X = X := fun X => zMo_rc b1.1
    have hr4 : ∀ X : zR, zrc (h4.1 m) 13 X = X := fun X => zMo_rc c1m
    have hr5 : ∀ X : zR, zrc ((zup h5 (m + 1) (20, (N'.set 2 (A.2.2.2 + nI (ysz t - ysz (ysim t)))).map Value.int)).1 m) 13 X = X := fun X => zMo_rc (by unfold zMo; rw [zup_ne (by omega), m5])
    have hr2 : ∀ X : zR, zrc ((zup h1 m (13, zMF m (yup (yup F 8 (nI (ysz t))) 11 0))).1 m) 13 X = X := fun X => zMo_rc zMo_up
    have e201 := e_201 (sv := sv) (d := d + 18) (x := nI (ysz t - ysz (ysim t))) (h := zup h5 (m + 1) (20, (N'.set 2 (A.2.2.2 + nI (ysz t - ysz (ysim t)))).map Value.int)) (m := m) (F := yup (yup (yup F 8 (nI (ysz t))) 8 (nI (ysz (ysim t)))) 11 (nI (ypr (ysim t)).length)) (by unfold zMo; rw [zup_ne (by omega), m5])
    have E1 : zcall zP sv (d + 19) 203 [.ref m, .int (nI i)] h = some (.inl (some (.int (nI 1))), h) := e1
    have E2 : zcall zP sv (d + 19) 206 [.ref m, .int (nI i)] h = some (.inl none, h1) := e2
    have E3 : zcall zP sv (d + 19) 222 [.ref m, .int 0] (zup h1 m (13, zMF m (yup (yup F 8 (nI (ysz t))) 11 0))) = some (.inl (some (.int (nI (0 + ysz t)))), h3) := by
      rw [← nI_0]
      rw [← nI_0] at e3
      exact e3
    have E4 : zcall zP sv (d + 19) 207 [.ref m] h3 = some (.inl none, h4) := e4
    have E5 : zcall zP sv (d + 19) 208 [.ref m, .int (nI i)] h4 = some (.inl none, h5) := e5
    have E6 : zcall zP sv (d + 19) 201 [.ref m, .int (nI (ysz t - ysz (ysim t)))] (zup h5 (m + 1) (20, (N'.set 2 (A.2.2.2 + nI (ysz t - ysz (ysim t)))).map Value.int)) = _ := e201
    have u8 : yup F 8 (nI (ysz t)) 8 = nI (ysz t) := yup_eq
    have v8 : yup (yup (yup F 8 (nI (ysz t))) 8 (nI (ysz (ysim t)))) 11 (nI (ypr (ysim t)).length) 8 = nI (ysz (ysim t)) := by rw [yup_ne (by omega), yup_eq]
    have w5 : (zup h5 (m + 1) (20, (N'.set 2 (A.2.2.2 + nI (ysz t - ysz (ysim t)))).map Value.int)).1 m = (13, zMF m (yup (yup (yup F 8 (nI (ysz t))) 8 (nI (ysz (ysim t)))) 11 (nI (ypr (ysim t)).length))) := by rw [zup_ne (by omega), m5]
    simp (disch := first | exact znw_u | exact znw_i | omega) only [zc_238, zs_238_0, zs_238_1, zs_238_2, zs_238_5, zs_238_8, zs_238_9, zs_238_10, zs_238_11, zs_238_12, zs_238_15, zs_238_16, zs_238_19, zs_238_20, zs_238_21, zs_238_22, zs_238_25, zs_238_26, zs_238_27, zs_238_30, zs_238_31, zs_238_32, zs_238_35, zs_238_36, zs_238_37, zs_238_40, zs_238_41, zs_238_44, zs_238_45, zs_238_46, zs_238_47, zs_238_48, zs_238_49, zs_238_52, zs_238_53, zs_238_54, zs_238_55, zs_238_56, zs_238_57, zs_238_58, zs_238_61, zs_238_62, zs_238_65, hrc, hr1, hr2, hr3, hr4, hr5, E1, E2, E3, E4, E5, E6, zbk_v, zts_s, zts_n, zrc_13v, nI_1e0, ↓reduceIte, a1', zmf_8, zmp_11, zmf_0, u8, v8, m5, w5, d1', g2, nI_subn hst, s2]
  · exact zScm_of hs0 (zLst_cg c2 (by rw [zup_ne (by omega), zup_ne (by omega), d4 _ (by omega)]) (by rw [zup_ne (by omega), zup_ne (by omega), d4 _ (by omega)])) (zLst_cg c1.2 (by rw [zup_ne (by omega), zup_ne (by omega), d4 _ (by omega)]) (by rw [zup_ne (by omega), zup_ne (by omega), d4 _ (by omega)])) (fun a ha => by rw [zup_ne (by omega), zup_ne (by omega), fr a (by omega) (by omega) (by omega) (by omega) (by omega) (by omega)])
  · exact yff_tr (yff_up (by decide)) (yff_tr (yff_up (by decide)) (yff_tr (yff_up (by decide)) (yff_up (by decide))))
  · exact ⟨fun q q1 q2 q3 => by rw [zup_ne q1, zup_ne q2, fr q q1 q2 (by omega) (by omega) (by omega) (by omega)], by show h5.2 = h.2; rw [d5, c4, b2.2]; exact a4⟩
end ZMB

section ZMC
variable {sv : Nat → Value} {d : Nat} {h : zH} {m : Nat} {F : Nat → Int32} {A : yA} {N : List Int32}
theorem yNow_0 {N : List Int32} {A : yA} {n : Nat} (hn : yNow N A) (hl : A.1.length = n) : ∀ Kv, zael (20, N.map Value.int) 20 0 Kv = Kv (.int (nI n)) := fun Kv => by
  rw [← nI_0]
  exact zaelv (by rw [List.getElem?_map, hn.2.1, hl]; rfl) (by decide)
theorem e_234a {f : Int32} (hw : zWk h m F A) (hl : A.1.length = 6) : zcall zP sv (d + 20) 234 [.ref m, .int f] h = some (.inl (some (.int f)), h) := by
  obtain ⟨hm, ⟨N, hN, hn⟩, hs⟩ := hw
  unfold zMo at hm
  have hN1 := hN.1
  have e0 := yNow_0 hn hl
  simp only [zc_234, zs_234_0, zs_234_1, zs_234_4, zs_234_5, zs_234_6, zs_234_8, zs_234_11, zs_234_12, zs_234_13, zs_234_14, zs_234_17, zs_234_18, zs_234_21, zs_234_24, zs_234_25, zs_234_26, zs_234_27, zs_234_28, zs_234_29, zs_234_30, zs_234_33, zs_234_34, zs_234_35, zs_234_38, zs_234_39, zs_234_40, zs_234_43, zs_234_44, zs_234_45, zs_234_46, zs_234_47, zs_234_48, zs_234_49, zs_234_50, zs_234_53, hm, zmf_0, hN1, e0, ↓reduceIte]
theorem e_234f {t : yT} (hw : zWk h m (yup F 11 (nI (ysz t))) A) (h7 : zLst h (m + 7) (m + 8) (ypr t)) (ht : ytw t = true) (hz : ysz t < 600) (hA : yAok A) (hl : A.1.length < 6) {f : Int32} : ∃ h', zcall zP sv (d + 20) 234 [.ref m, .int f] h = zrun zP sv (zcall zP sv (d + 19)) 234 21 [.val (.ref m), .val (.int f)] [.int (yb (decide (ysz t ≤ 31) && decide (ydp t ≤ 8)))] h' ∧ zWk h' m (yup (yup F 8 (nI (ysz t))) 11 (nI (ysz t))) A ∧ zLst h' (m + 5) (m + 6) (ypr t) ∧ zwf m h h' := by
  obtain ⟨hm, ⟨N, hN, hn⟩, hs⟩ := hw
  have hs0 := hs
  obtain ⟨⟨p0, l5⟩, _, hsf, _⟩ := hs
  have hlt := ypr_len t
  have hkn : ynk (ypr t) := ynk_ypr _ (Or.inr ht)
  have hmd : zMd h m F (ypr t) := ⟨by rw [hlt]; exact hm, h7⟩
  obtain ⟨h1, e1, a1, a2, a3, a4⟩ := e_207 (sv := sv) (d := d + 18) hmd hkn l5
  rw [hlt] at a1
  have a1m := a1.1
  rw [hlt] at a1m
  have hN1 : zTab h1 (m + 1) N := zTab_cg hN (a3 _ (by omega) (by omega) (by omega))
  have hsf1 : zSF h1 m := zSF_cg hsf (a3 _ (by omega) (by omega) (by omega)) (a3 _ (by omega) (by omega) (by omega))
  obtain ⟨h2, e2, b1, b2⟩ := e_215 (sv := sv) (d := d + 15) ht hz a1m (by rw [yup_ne (by omega), yup_eq]) a2 hN1.1 hN1.2 hsf1
  have fr : ∀ q, q ≠ m → q ≠ m + 5 → q ≠ m + 6 → q ≠ m + 9 → q ≠ m + 10 → h2.1 q = h.1 q := fun q n0 n5 n6 n9 n10 => by rw [b2.1 q n9 n10, a3 q n0 n5 n6]
  have l5' : zLst h2 (m + 5) (m + 6) (ypr t) := zLst_cg a2 (b2.1 _ (by omega) (by omega)) (b2.1 _ (by omega) (by omega))
  refine ⟨h2, ?_, ⟨by unfold zMo; rw [b2.1 m (by omega) (by omega)]; exact a1m, ⟨N, zTab_cg hN (fr _ (by omega) (by omega) (by omega) (by omega) (by omega)), hn⟩, ?_⟩, l5', ⟨fun q q1 q2 q3 => fr q q1 (by omega) (by omega) (by omega) (by omega), by rw [b2.2]; exact a4⟩⟩
  · have hNh := hN.1
    have hmh := hm
    unfold zMo at hmh
    have e0 := yNow_0 hn rfl
    have g6 : ¬ nI A.1.length = nI 6 := fun q => absurd ((nI_eq (by omega) (by omega)).mp q) (by omega)
    have hr1 : ∀ X : zR, zrc (h1.1 m) 13 X = X := fun X => zMo_rc a1m
    have E1 : zcall zP sv (d + 19) 207 [.ref m] h = some (.inl none, h1) := e1
    have E2 : zcall zP sv (d + 19) 215 [.ref m] h1 = _ := e2
    rw [zc_234]
    simp only [zs_234_0, zs_234_1, zs_234_4, zs_234_5, zs_234_6, zs_234_8, zs_234_11, zs_234_12, zs_234_13, zs_234_14, zs_234_17, zs_234_18, zs_234_29, zs_234_30, zs_234_33, zs_234_34, zs_234_35, zs_234_38, zs_234_39, zs_234_40, zs_234_43, zs_234_44, zs_234_45, zs_234_46, zs_234_47, zs_234_48, zs_234_49, zs_234_50, zs_234_53, hmh, zmf_0, hNh, e0, if_neg g6, zrc_13v, hr1, E1, E2, zbk_v, zts_s, zts_n]
  · obtain ⟨_, _, _, c2, c3, c4, c5, c6⟩ := hs0
    exact ⟨⟨_, l5'⟩, ⟨_, zLst_cg h7 (fr _ (by omega) (by omega) (by omega) (by omega) (by omega)) (fr _ (by omega) (by omega) (by omega) (by omega) (by omega))⟩, b1, zArr_cg c2 (fr _ (by omega) (by omega) (by omega) (by omega) (by omega)), zArr_cg c3 (fr _ (by omega) (by omega) (by omega) (by omega) (by omega)), zArr_cg c4 (fr _ (by omega) (by omega) (by omega) (by omega) (by omega)), zArr_cg c5 (fr _ (by omega) (by omega) (by omega) (by omega) (by omega)), zArr_cg c6 (fr _ (by omega) (by omega) (by omega) (by omega) (by omega))⟩
theorem yff_11 {F : Nat → Int32} {x : Int32} : yff (yup F 11 x) F := ⟨(yup_ne (by omega)).symm, (yup_ne (by omega)).symm, (yup_ne (by omega)).symm, (yup_ne (by omega)).symm, (yup_ne (by omega)).symm, (yup_ne (by omega)).symm⟩
theorem e_234b {t : yT} (hw : zWk h m (yup F 11 (nI (ysz t))) A) (h7 : zLst h (m + 7) (m + 8) (ypr t)) (ht : ytw t = true) (hz : ysz t < 600) (hA : yAok A) (hl : A.1.length < 6) {f : Int32} (hb : ¬ (ysz t ≤ 31 ∧ ydp t ≤ 8)) : ∃ (h' : zH) (F' : Nat → Int32), zcall zP sv (d + 20) 234 [.ref m, .int f] h = some (.inl (some (.int (f + nI 1))), h') ∧ zWk h' m F' A ∧ yff F F' ∧ zwf m h h' := by
  obtain ⟨h', e, a1, a2, a3⟩ := e_234f (sv := sv) (d := d) hw h7 ht hz hA hl (f := f)
  refine ⟨h', _, ?_, a1, yff_tr (yff_up (j := 8) (by decide)) (yff_up (by decide)), a3⟩
  have hb2 : (decide (ysz t ≤ 31) && decide (ydp t ≤ 8)) = false := by
    rw [← Bool.decide_and]
    exact decide_eq_false hb
  rw [e, hb2, yb_f]
  simp only [zs_234_0, zs_234_1, zs_234_4, zs_234_5, zs_234_6, zs_234_8, zs_234_11, zs_234_12, zs_234_13, zs_234_14, zs_234_17, zs_234_18, zs_234_21, zs_234_24, zs_234_25, zs_234_26, zs_234_27, zs_234_28, zs_234_29, zs_234_30, zs_234_33, zs_234_34, zs_234_35, zs_234_38, zs_234_39, zs_234_40, zs_234_43, zs_234_44, zs_234_45, zs_234_46, zs_234_47, zs_234_48, zs_234_49, zs_234_50, zs_234_53, ↓reduceIte]
theorem e_234c {t : yT} (hw : zWk h m (yup F 11 (nI (ysz t))) A) (h7 : zLst h (m + 7) (m + 8) (ypr t)) (ht : ytw t = true) (hz : ysz t < 600) (hA : yAok A) (hl : A.1.length < 6) {f : Int32} (hb : ysz t ≤ 31 ∧ ydp t ≤ 8) : ∃ (h' : zH) (F' : Nat → Int32), zcall zP sv (d + 20) 234 [.ref m, .int f] h = some (.inl (some (.int 0)), h') ∧ zWk h' m F' (A.1 ++ [t], A.2) ∧ F' 30 = nI A.1.length ∧ yff F F' ∧ zwf m h h' := by
  obtain ⟨h1, e, ⟨a1, ⟨N, hN, hn⟩, hs⟩, a2, a3⟩ := e_234f (sv := sv) (d := d) hw h7 ht hz hA hl (f := f)
  have hb2 : (decide (ysz t ≤ 31) && decide (ydp t ≤ 8)) = true := by
    rw [← Bool.decide_and]
    exact decide_eq_true hb
  rw [e, hb2, yb_t]
  have hlt := ypr_len t
  have hkn : ynk (ypr t) := ynk_ypr _ (Or.inr ht)
  have a1m := a1
  unfold zMo at a1m
  obtain ⟨h2, N', e5, d1, d2, d3, d4, d5⟩ := e_208 (sv := sv) (d := d + 18) (p := ypr t) hl a1 (by rw [hlt, yup_ne (by omega), yup_eq]) (by omega) hkn a2 hN
  have E5 : zcall zP sv (d + 19) 208 [.ref m, .int (nI A.1.length)] h1 = some (.inl none, h2) := e5
  have m2 : h2.1 m = (13, zMF m (yup (yup F 8 (nI (ysz t))) 11 (nI (ysz t)))) := by rw [d4 m (by omega), a1m]
  have hN1 := hN.1
  have d1' := d1.1
  have d1l := d1.2
  have e0 := yNow_0 hn rfl
  have hlen := hA.1
  have n0 : N'[0]? = some (nI A.1.length) := by rw [d2 0 (by omega), hn.2.1]
  have e0' : ∀ Kv, zael (20, N'.map Value.int) 20 0 Kv = Kv (.int (nI A.1.length)) := fun Kv => by
    rw [← nI_0]
    exact zaelv (by rw [List.getElem?_map, n0]; rfl) (by decide)
  have s0 : ∀ Kc : zC → zR, zaset (20, N'.map Value.int) 20 0 (.int (nI (A.1.length + 1))) Kc = Kc (20, (N'.set 0 (nI (A.1.length + 1))).map Value.int) := fun Kc => by
    rw [← nI_0]
    exact zsI (by omega) (by omega)
  have w2 : (zup h2 (m + 1) (20, (N'.set 0 (nI (A.1.length + 1))).map Value.int)).1 m = (13, zMF m (yup (yup F 8 (nI (ysz t))) 11 (nI (ysz t)))) := by rw [zup_ne (by omega), m2]
  have E6 := e_201 (sv := sv) (d := d + 18) (x := nI A.1.length) (h := zup h2 (m + 1) (20, (N'.set 0 (nI (A.1.length + 1))).map Value.int)) (m := m) (F := yup (yup F 8 (nI (ysz t))) 11 (nI (ysz t))) w2
  have E6' : zcall zP sv (d + 19) 201 [.ref m, .int (nI A.1.length)] (zup h2 (m + 1) (20, (N'.set 0 (nI (A.1.length + 1))).map Value.int)) = _ := E6
  refine ⟨zup (zup h2 (m + 1) (20, (N'.set 0 (nI (A.1.length + 1))).map Value.int)) m (13, zMF m (yup (yup (yup F 8 (nI (ysz t))) 11 (nI (ysz t))) 30 (nI A.1.length))), _, ?_, ⟨zMo_up, ⟨N'.set 0 (nI (A.1.length + 1)), ⟨by rw [zup_ne (by omega), zup_at], by rw [List.length_set, d1l]⟩, yNow_app hn d1l d2 d3 hA.2.2⟩, ?_⟩, yup_eq, ?_, ?_⟩
  · simp (disch := omega) only [zs_234_0, zs_234_1, zs_234_4, zs_234_5, zs_234_6, zs_234_8, zs_234_11, zs_234_12, zs_234_13, zs_234_14, zs_234_17, zs_234_18, zs_234_21, zs_234_24, zs_234_25, zs_234_26, zs_234_27, zs_234_28, zs_234_29, zs_234_30, zs_234_33, zs_234_34, zs_234_35, zs_234_38, zs_234_39, zs_234_40, zs_234_43, zs_234_44, zs_234_45, zs_234_46, zs_234_47, zs_234_48, zs_234_49, zs_234_50, zs_234_53, nI_1e0, ↓reduceIte, a1m, zmf_0, hN1, e0, zrc_13v, E5, m2, d1', e0', nI_add, s0, w2, E6', zbk_v, zts_s, zts_n]
  · have hs2 := hs
    obtain ⟨⟨_, z1⟩, ⟨_, z2⟩, _⟩ := hs2
    exact zScm_of hs (zLst_cg z1 (by rw [zup_ne (by omega), zup_ne (by omega), d4 _ (by omega)]) (by rw [zup_ne (by omega), zup_ne (by omega), d4 _ (by omega)])) (zLst_cg z2 (by rw [zup_ne (by omega), zup_ne (by omega), d4 _ (by omega)]) (by rw [zup_ne (by omega), zup_ne (by omega), d4 _ (by omega)])) (fun a ha => by rw [zup_ne (by omega), zup_ne (by omega), d4 _ (by omega)])
  · exact yff_tr (yff_up (j := 8) (by decide)) (yff_tr (yff_up (by decide)) (yff_up (by decide)))
  · exact zwf_tr a3 ⟨fun q q1 q2 q3 => by rw [zup_ne q1, zup_ne q2, d4 _ q2], d5⟩
end ZMC

theorem ybk_sh {N N' : List Int32} {b c : Nat} {p : yP} (hb : ybk N b p) (hc : c + 63 ≤ 387) (hw : ∀ j, j < 63 → N'[c + j]? = N[b + j]?) : ybk N' c p := by
  obtain ⟨c1, c2, c3, c4, c5⟩ := hb
  refine ⟨by rw [← c1]; exact hw 0 (by omega), fun k x hx => ?_, c3, hc, c5⟩
  have hk := (List.getElem?_eq_some_iff.mp hx).1
  obtain ⟨z1, z2⟩ := c2 k x hx
  constructor
  · have e1 := hw (1 + 2 * k) (by omega)
    rw [show c + (1 + 2 * k) = c + 1 + 2 * k by omega, show b + (1 + 2 * k) = b + 1 + 2 * k by omega, z1] at e1
    exact e1
  · have e1 := hw (2 + 2 * k) (by omega)
    rw [show c + (2 + 2 * k) = c + 2 + 2 * k by omega, show b + (2 + 2 * k) = b + 2 + 2 * k by omega, z2] at e1
    exact e1
theorem yNow_era {N N' : List Int32} {A : yA} {f n : Nat} (hn : yNow N A) (hf : f < A.1.length) (h6 : A.1.length ≤ 6) (hA : A.2.1.length = 6) (hln : A.1.length = n + 1) (hl : N'.length = 387) (h0 : N'[0]? = some (nI n)) (hlo : ∀ i, 0 < i → i < 9 + 63 * f → N'[i]? = N[i]?) (hhi : ∀ i, 9 + 63 * f ≤ i → i < 9 + 63 * n → N'[i]? = N[i + 63]?) : yNow N' (A.1.eraseIdx f, A.2) := by
  obtain ⟨c1, c2, c3, c4, c5, c6⟩ := hn
  refine ⟨hl, by rw [h0]; show _ = some (nI (A.1.eraseIdx f).length); rw [List.length_eraseIdx_of_lt hf, hln, Nat.add_sub_cancel], by rw [hlo 1 (by omega) (by omega), c3], by rw [hlo 2 (by omega) (by omega), c4], fun v x hx => ?_, fun k u hu => ?_⟩
  · have hv := (List.getElem?_eq_some_iff.mp hx).1
    have hv2 : v < 6 := by rw [← hA]; exact hv
    rw [hlo _ (by omega) (by omega)]
    exact c5 v x hx
  · have hk : k < (A.1.eraseIdx f).length := (List.getElem?_eq_some_iff.mp hu).1
    rw [List.length_eraseIdx_of_lt hf, hln, Nat.add_sub_cancel] at hk
    have hu2 : (A.1.eraseIdx f)[k]? = some u := hu
    rw [List.getElem?_eraseIdx] at hu2
    by_cases hkf : k < f
    · rw [if_pos hkf] at hu2
      exact ybk_of (c6 k u hu2) (fun j j1 j2 => hlo j (by omega) (by omega))
    · rw [if_neg hkf] at hu2
      exact ybk_sh (c6 (k + 1) u hu2) (by omega) (fun j hj => by rw [hhi _ (by omega) (by omega), show 9 + 63 * k + j + 63 = 9 + 63 * (k + 1) + j by omega])
section ZMD
variable {sv : Nat → Value} {d : Nat} {h : zH} {m : Nat} {F : Nat → Int32} {A : yA} {N : List Int32}
theorem e_236l {f c n : Nat} {l1 : Slot} {N0 : List Int32} (hn : n < 6) : ∀ r k (h : zH) (N : List Int32), k + r = 9 + 63 * n → h.1 m = (13, zMF m F) → zTab h (m + 1) N → N0.length = 387 → N0[0]? = some (nI n) → 9 + 63 * f ≤ k → (∀ i, i < 9 + 63 * f → N[i]? = N0[i]?) → (∀ i, 9 + 63 * f ≤ i → i < k → N[i]? = N0[i + 63]?) → (∀ i, k ≤ i → N[i]? = N0[i]?) → ∃ (h' : zH) (N' : List Int32), zrun zP sv (zcall zP sv d) 236 28 [.val (.ref m), l1, .val (.int (nI k))] [] h = zrun zP sv (zcall zP sv d) 236 65 [.val (.ref m), l1, .val (.int (nI (9 + 63 * n)))] [] h' ∧ zTab h' (m + 1) N' ∧ (∀ i, i < 9 + 63 * f → N'[i]? = N0[i]?) ∧ (∀ i, 9 + 63 * f ≤ i → i < 9 + 63 * n → N'[i]? = N0[i + 63]?) ∧ (∀ q, q ≠ m + 1 → h'.1 q = h.1 q) ∧ h'.2 = h.2 := by
  intro r
  induction r with
  | zero =>
    intro k h N hk hm hN hl0 h00 hf g1 g2 g3
    obtain rfl : k = 9 + 63 * n := by omega
    refine ⟨h, N, ?_, hN, g1, g2, fun _ _ => rfl, rfl⟩
    have hN1 := hN.1
    have n0 : N[0]? = some (nI n) := by rw [g1 0 (by omega), h00]
    have e0 : ∀ Kv, zael (20, N.map Value.int) 20 0 Kv = Kv (.int (nI n)) := fun Kv => by
      rw [← nI_0]
      exact zaelv (by rw [List.getElem?_map, n0]; rfl) (by decide)
    simp only [zs_236_0, zs_236_1, zs_236_2, zs_236_5, zs_236_8, zs_236_9, zs_236_10, zs_236_11, zs_236_14, zs_236_15, zs_236_16, zs_236_17, zs_236_18, zs_236_19, zs_236_20, zs_236_22, zs_236_24, zs_236_25, zs_236_26, zs_236_27, zs_236_28, zs_236_29, zs_236_31, zs_236_33, zs_236_34, zs_236_37, zs_236_38, zs_236_39, zs_236_40, zs_236_41, zs_236_44, zs_236_45, zs_236_48, zs_236_49, zs_236_50, zs_236_53, zs_236_54, zs_236_56, zs_236_57, zs_236_58, zs_236_59, zs_236_62, zs_236_66, zs_236_67, zs_236_70, zs_236_71, zs_236_72, zs_236_75, hm, zmf_0, hN1, e0, nI_mulx, nI_add, Int32.lt_irrefl, ↓reduceIte]
  | succ r ih =>
    intro k h N hk hm hN hl0 h00 hf g1 g2 g3
    have hN1 := hN.1
    have hN2 := hN.2
    have n0 : N[0]? = some (nI n) := by rw [g1 0 (by omega), h00]
    have e0 : ∀ Kv, zael (20, N.map Value.int) 20 0 Kv = Kv (.int (nI n)) := fun Kv => by
      rw [← nI_0]
      exact zaelv (by rw [List.getElem?_map, n0]; rfl) (by decide)
    obtain ⟨y, hy⟩ : ∃ y, N0[k + 63]? = some y := ⟨_, List.getElem?_eq_getElem (by omega)⟩
    have ey : ∀ Kv, zael (20, N.map Value.int) 20 (nI (k + 63)) Kv = Kv (.int y) := fun Kv => zaelv (by rw [List.getElem?_map, g3 _ (by omega), hy]; rfl) (by omega)
    have s1 : ∀ Kc : zC → zR, zaset (20, N.map Value.int) 20 (nI k) (.int y) Kc = Kc (20, (N.set k y).map Value.int) := fun Kc => zsI (by omega) (by omega)
    have c1 : nI k < nI (9 + 63 * n) := nI_lt (by omega) (by omega)
    obtain ⟨h', N', e, q1, q2, q3, q4, q5⟩ := ih (k + 1) (zup h (m + 1) (20, (N.set k y).map Value.int)) (N.set k y) (by omega) (by rw [zup_ne (by omega), hm]) ⟨zup_at, by rw [List.length_set, hN2]⟩ hl0 h00 (by omega) (fun i hi => by rw [List.getElem?_set_ne (by omega), g1 i hi]) (fun i i1 i2 => by
      by_cases hik : i = k
      · subst hik
        rw [List.getElem?_set_self (by omega), hy]
      · rw [List.getElem?_set_ne (by omega), g2 i i1 (by omega)]) (fun i hi => by rw [List.getElem?_set_ne (by omega), g3 i (by omega)])
    refine ⟨h', N', ?_, q1, q2, q3, fun q hq => by rw [q4 q hq, zup_ne hq], q5⟩
    rw [← e]
    have e2 : zrun zP sv (zcall zP sv d) 236 59 [.val (.ref m), l1, .val (.int (nI k))] [] (zup h (m + 1) (20, (N.set k y).map Value.int)) = zrun zP sv (zcall zP sv d) 236 28 [.val (.ref m), l1, .val (.int (nI (k + 1)))] [] (zup h (m + 1) (20, (N.set k y).map Value.int)) := by rw [zs_236_59, zs_236_62, nI_1']
    rw [← e2]
    simp only [zs_236_0, zs_236_1, zs_236_2, zs_236_5, zs_236_8, zs_236_9, zs_236_10, zs_236_11, zs_236_14, zs_236_15, zs_236_16, zs_236_17, zs_236_18, zs_236_19, zs_236_20, zs_236_22, zs_236_24, zs_236_25, zs_236_26, zs_236_27, zs_236_28, zs_236_29, zs_236_31, zs_236_33, zs_236_34, zs_236_37, zs_236_38, zs_236_39, zs_236_40, zs_236_41, zs_236_44, zs_236_45, zs_236_48, zs_236_49, zs_236_50, zs_236_53, zs_236_54, zs_236_56, zs_236_57, zs_236_58, zs_236_65, zs_236_66, zs_236_67, zs_236_70, zs_236_71, zs_236_72, zs_236_75, hm, zmf_0, hN1, e0, nI_mulx, nI_add, if_pos c1, ey, s1]
theorem e_236 {f : Nat} (hw : zWk h m F A) (hA : yAok A) (hf : f < A.1.length) : ∃ (h' : zH) (F' : Nat → Int32), zcall zP sv (d + 20) 236 [.ref m, .int (nI f)] h = some (.inl (some (.int 0)), h') ∧ zWk h' m F' (A.1.eraseIdx f, A.2) ∧ F' 30 = nI (A.1.length - 1) ∧ yff F F' ∧ zwf m h h' := by
  obtain ⟨hm, ⟨N, hN, hn⟩, hs⟩ := hw
  have hA1 := hA.1
  obtain ⟨n, hln⟩ : ∃ n, A.1.length = n + 1 := ⟨A.1.length - 1, by omega⟩
  have e1 := e_203t (sv := sv) (d := d + 17) hm hN hn hf hA1
  have E1 : zcall zP sv (d + 19) 203 [.ref m, .int (nI f)] h = some (.inl (some (.int (nI 1))), h) := e1
  have hmm := hm
  unfold zMo at hmm
  have hN1 := hN.1
  have hN2 := hN.2
  have e0 := yNow_0 hn hln
  have s0 : ∀ Kc : zC → zR, zaset (20, N.map Value.int) 20 0 (.int (nI n)) Kc = Kc (20, (N.set 0 (nI n)).map Value.int) := fun Kc => by
    rw [← nI_0]
    exact zsI (by omega) (by omega)
  obtain ⟨h2, N', e2, a1, a2, a3, a4, a5⟩ := e_236l (sv := sv) (d := d + 19) (m := m) (F := F) (f := f) (c := 0) (n := n) (l1 := .val (.int (nI f))) (N0 := N.set 0 (nI n)) (by omega) (63 * (n - f)) (9 + 63 * f) (zup h (m + 1) (20, (N.set 0 (nI n)).map Value.int)) (N.set 0 (nI n)) (by omega) (by rw [zup_ne (by omega), hmm]) ⟨zup_at, by rw [List.length_set, hN2]⟩ (by rw [List.length_set, hN2]) (by rw [List.getElem?_set_self (by omega)]) (Nat.le_refl _) (fun _ _ => rfl) (fun i i1 i2 => absurd i2 (by omega)) (fun _ _ => rfl)
  have a1' := a1.1
  have a1l := a1.2
  have m2 : h2.1 m = (13, zMF m F) := by rw [a4 m (by omega), zup_ne (by omega), hmm]
  have n0 : N'[0]? = some (nI n) := by rw [a2 0 (by omega), List.getElem?_set_self (by omega)]
  have e0' : ∀ Kv, zael (20, N'.map Value.int) 20 0 Kv = Kv (.int (nI n)) := fun Kv => by
    rw [← nI_0]
    exact zaelv (by rw [List.getElem?_map, n0]; rfl) (by decide)
  have E6 : zcall zP sv (d + 19) 201 [.ref m, .int (nI n)] h2 = _ := e_201 (sv := sv) (d := d + 18) (x := nI n) (h := h2) (m := m) (F := F) m2
  refine ⟨zup h2 m (13, zMF m (yup F 30 (nI n))), _, ?_, ⟨zMo_up, ⟨N', ⟨by rw [zup_ne (by omega), a1'], a1l⟩, yNow_era hn hf hA1 hA.2.2 hln a1l n0 (fun i i1 i2 => by rw [a2 i i2, List.getElem?_set_ne (by omega)]) (fun i i1 i2 => by rw [a3 i i1 i2, List.getElem?_set_ne (by omega)])⟩, ?_⟩, ?_, yff_up (by decide), ?_⟩
  · rw [zc_236]
    have e28 : zrun zP sv (zcall zP sv (d + 19)) 236 0 [.val (.ref m), .val (.int (nI f)), .unset] [] h = zrun zP sv (zcall zP sv (d + 19)) 236 28 [.val (.ref m), .val (.int (nI f)), .val (.int (nI (9 + 63 * f)))] [] (zup h (m + 1) (20, (N.set 0 (nI n)).map Value.int)) := by
      simp (disch := first | exact znw_u | exact znw_i | omega) only [zs_236_0, zs_236_1, zs_236_2, zs_236_5, zs_236_10, zs_236_11, zs_236_14, zs_236_15, zs_236_16, zs_236_17, zs_236_18, zs_236_19, zs_236_20, zs_236_22, zs_236_24, zs_236_25, zs_236_26, zs_236_27, hmm, zrc_13v, E1, zbk_v, zts_s, nI_1e0, ↓reduceIte, zmf_0, hN1, e0, nI_m, s0, nI_mulx, nI_add]
    rw [e28, e2]
    simp only [zs_236_0, zs_236_1, zs_236_2, zs_236_5, zs_236_8, zs_236_9, zs_236_10, zs_236_11, zs_236_14, zs_236_15, zs_236_16, zs_236_17, zs_236_18, zs_236_19, zs_236_20, zs_236_22, zs_236_24, zs_236_25, zs_236_26, zs_236_27, zs_236_28, zs_236_29, zs_236_31, zs_236_33, zs_236_34, zs_236_37, zs_236_38, zs_236_39, zs_236_40, zs_236_41, zs_236_44, zs_236_45, zs_236_48, zs_236_49, zs_236_50, zs_236_53, zs_236_54, zs_236_56, zs_236_57, zs_236_58, zs_236_59, zs_236_62, zs_236_65, zs_236_66, zs_236_67, zs_236_70, zs_236_71, zs_236_72, zs_236_75, m2, zmf_0, a1', e0', zrc_13v, E6, zbk_v, zts_s]
  · obtain ⟨⟨_, z1⟩, ⟨_, z2⟩, _⟩ := id hs
    exact zScm_of hs (zLst_cg z1 (by rw [zup_ne (by omega), a4 _ (by omega), zup_ne (by omega)]) (by rw [zup_ne (by omega), a4 _ (by omega), zup_ne (by omega)])) (zLst_cg z2 (by rw [zup_ne (by omega), a4 _ (by omega), zup_ne (by omega)]) (by rw [zup_ne (by omega), a4 _ (by omega), zup_ne (by omega)])) (fun a ha => by rw [zup_ne (by omega), a4 _ (by omega), zup_ne (by omega)])
  · rw [yup_eq, hln, Nat.add_sub_cancel]
  · exact ⟨fun q q1 q2 q3 => by rw [zup_ne q1, a4 q q2, zup_ne q2], a5⟩
end ZMD

theorem ysz_yder {c : Int32} : ∀ (t : yT) (B : Nat), ydp t ≤ B → ysz (yder c t) ≤ (B + 2) * ysz t
  | .leaf, _, _ => Nat.zero_le _
  | .inner n k v l r, 0, hB => absurd (show max (ydp l) (ydp r) + 1 ≤ 0 from hB) (by omega)
  | .inner n k v l r, B + 1, hB => by
    have hB2 : max (ydp l) (ydp r) + 1 ≤ B + 1 := hB
    have i1 := ysz_yder (c := c) l B (by omega)
    have i2 := ysz_yder (c := c) r B (by omega)
    show ysz (if k = nI 110 then ymk (nI 110) 0 (yder c l) .leaf else if k = nI 43 ∨ k = nI 45 then ymk k 0 (yder c l) (yder c r) else if k = nI 42 then ymk (nI 43) 0 (ymk (nI 42) 0 (yder c l) r) (ymk (nI 42) 0 l (yder c r)) else ycn (if k = nI 118 ∧ v = c then nI 1 else 0)) ≤ (B + 1 + 2) * (ysz l + ysz r + 1)
    rw [Nat.add_mul] at i1 i2
    rw [Nat.mul_add, Nat.mul_add, show B + 1 + 2 = B + 3 by omega, Nat.add_mul, Nat.add_mul]
    split
    · show ysz (yder c l) + 0 + 1 ≤ _
      omega
    · split
      · rw [ysz_mk]
        omega
      · split
        · rw [ysz_mk, ysz_mk, ysz_mk]
          omega
        · show 0 + 0 + 1 ≤ _
          omega
section ZME
variable {sv : Nat → Value} {d : Nat} {h : zH} {m : Nat} {F : Nat → Int32} {A : yA} {N : List Int32}
theorem e_240a {i : Nat} {c : Int32} (hw : zWk h m F A) (hA : yAok A) (hi : i < A.1.length) (hc : ylet c = false) : zcall zP sv (d + 21) 240 [.ref m, .int (nI i), .int c] h = some (.inl (some (.int (nI 2))), h) := by
  obtain ⟨hm, ⟨N, hN, hn⟩, hs⟩ := hw
  have E1 : zcall zP sv (d + 20) 203 [.ref m, .int (nI i)] h = some (.inl (some (.int (nI 1))), h) := e_203t (sv := sv) (d := d + 18) hm hN hn hi hA.1
  have E2 : zcall zP sv (d + 20) 204 [.int c] h = _ := e_204 (sv := sv) (d := d + 18) (c := c)
  rw [hc, yb_f] at E2
  have hr : ∀ X : zR, zrc (h.1 m) 13 X = X := fun X => zMo_rc hm
  simp only [zc_240, zs_240_0, zs_240_1, zs_240_2, zs_240_5, zs_240_8, zs_240_9, zs_240_10, zs_240_11, zs_240_14, zs_240_17, zs_240_18, zs_240_19, zs_240_20, zs_240_23, zs_240_24, zs_240_25, zs_240_27, zs_240_30, zs_240_31, zs_240_32, zs_240_33, zs_240_34, zs_240_37, zs_240_38, zs_240_39, zs_240_42, zs_240_43, zs_240_44, zs_240_45, zs_240_47, zs_240_48, zs_240_51, zs_240_52, zs_240_53, zs_240_56, zs_240_57, zs_240_58, zs_240_61, zs_240_62, zs_240_63, zs_240_66, zs_240_67, zs_240_68, zs_240_69, zs_240_72, hr, E1, E2, zbk_v, zts_s, nI_1e0, ↓reduceIte]
theorem e_240b {i : Nat} {c : Int32} (hw : zWk h m F A) (hA : yAok A) (hi : i < A.1.length) (hc : ylet c = true) (hl : A.1.length = 6) : zcall zP sv (d + 21) 240 [.ref m, .int (nI i), .int c] h = some (.inl (some (.int (nI 3))), h) := by
  obtain ⟨hm, ⟨N, hN, hn⟩, hs⟩ := hw
  have E1 : zcall zP sv (d + 20) 203 [.ref m, .int (nI i)] h = some (.inl (some (.int (nI 1))), h) := e_203t (sv := sv) (d := d + 18) hm hN hn hi hA.1
  have E2 : zcall zP sv (d + 20) 204 [.int c] h = _ := e_204 (sv := sv) (d := d + 18) (c := c)
  rw [hc, yb_t] at E2
  unfold zMo at hm
  have hN1 := hN.1
  have e0 := yNow_0 hn hl
  simp only [zc_240, zs_240_0, zs_240_1, zs_240_2, zs_240_5, zs_240_8, zs_240_9, zs_240_10, zs_240_11, zs_240_14, zs_240_17, zs_240_18, zs_240_19, zs_240_20, zs_240_23, zs_240_24, zs_240_25, zs_240_27, zs_240_30, zs_240_31, zs_240_32, zs_240_33, zs_240_34, zs_240_37, zs_240_38, zs_240_39, zs_240_42, zs_240_43, zs_240_44, zs_240_45, zs_240_47, zs_240_48, zs_240_51, zs_240_52, zs_240_53, zs_240_56, zs_240_57, zs_240_58, zs_240_61, zs_240_62, zs_240_63, zs_240_66, zs_240_67, zs_240_68, zs_240_69, zs_240_72, hm, zmf_0, hN1, e0, zrc_13v, E1, E2, zbk_v, zts_s, nI_1e0, ↓reduceIte]
theorem e_240m {i : Nat} {c : Int32} {t : yT} (hw : zWk h m F A) (hA : yAok A) (hi : A.1[i]? = some t) (hc : ylet c = true) (hl : A.1.length < 6) : ∃ (h1 : zH) (F1 : Nat → Int32), (∀ (x : Int32) (h' : zH), zcall zP sv (d + 20) 234 [.ref m, .int (nI 3)] h1 = some (.inl (some (.int x)), h') → zcall zP sv (d + 21) 240 [.ref m, .int (nI i), .int c] h = some (.inl (some (.int x)), h')) ∧ zWk h1 m (yup F1 11 (nI (ysz (ysim (yder c t))))) A ∧ zLst h1 (m + 7) (m + 8) (ypr (ysim (yder c t))) ∧ yff F F1 ∧ zwf m h h1 := by
  obtain ⟨hm, ⟨N, hN, hn⟩, hs⟩ := hw
  have hs0 := hs
  obtain ⟨⟨p0, l5⟩, ⟨p1, l7⟩, _⟩ := hs
  have hil := (List.getElem?_eq_some_iff.mp hi).1
  have hA1 := hA.1
  obtain ⟨t1, t2, t3⟩ := hA.2.1 t (List.mem_of_getElem? hi)
  have E1 : zcall zP sv (d + 20) 203 [.ref m, .int (nI i)] h = some (.inl (some (.int (nI 1))), h) := e_203t (sv := sv) (d := d + 18) hm hN hn hil hA1
  have E2 : zcall zP sv (d + 20) 204 [.int c] h = _ := e_204 (sv := sv) (d := d + 18) (c := c)
  rw [hc, yb_t] at E2
  have hmm := hm
  unfold zMo at hmm
  have hN1 := hN.1
  have e0 := yNow_0 hn rfl
  have g6 : ¬ nI A.1.length = nI 6 := fun q => absurd ((nI_eq (by omega) (by omega)).mp q) (by omega)
  have hst := ysz_ysim (yder c t)
  have hsd := ysz_yder (c := c) t 8 t3
  have hdd := ydp_yder (c := c) t
  have d1 := ytw_yder (c := c) t t1
  have hlt := ypr_len t
  have hld := ypr_len (yder c t)
  have hls := ypr_len (ysim (yder c t))
  obtain ⟨h1, e3, a1, a2, a3, a4⟩ := e_206 (sv := sv) (d := d + 19) (hn.2.2.2.2.2 i t hi) hm hN l5
  rw [hlt] at a1
  have E3 : zcall zP sv (d + 20) 206 [.ref m, .int (nI i)] h = some (.inl none, h1) := e3
  have a1' := a1
  unfold zMo at a1'
  have hmd : zMd (zup h1 m (13, zMF m (yup (yup F 8 (nI (ysz t))) 11 0))) m (yup F 8 (nI (ysz t))) [] := ⟨by unfold zMo; rw [zup_at]; rfl, zLst_cg (zLst_0 l7) (by rw [zup_ne (by omega), a3 _ (by omega) (by omega) (by omega)]) (by rw [zup_ne (by omega), a3 _ (by omega) (by omega) (by omega)])⟩
  have hlk : zLst (zup h1 m (13, zMF m (yup (yup F 8 (nI (ysz t))) 11 0))) (m + 5) (m + 6) ([] ++ ypr t ++ []) := by
    rw [List.append_nil, List.nil_append]
    exact zLst_cg a2 (zup_ne (by omega)) (zup_ne (by omega))
  obtain ⟨h2, e4, b1, b2⟩ := e_224 (sv := sv) (c := c) t t1 (d + 20) [] [] [] _ (by omega) hlk hmd (by show 0 + ysz (yder c t) ≤ 700; omega)
  rw [List.nil_append] at b1
  have hkd : ynk (ypr (yder c t)) := ynk_ypr _ (Or.inr d1)
  obtain ⟨h3, e5, c1, c2, c3, c4⟩ := e_207 (sv := sv) (d := d + 19) b1 hkd (zLst_fm hlk b2)
  rw [hld] at c1
  have E5 : zcall zP sv (d + 20) 207 [.ref m] h2 = some (.inl none, h3) := e5
  have c1m := c1.1
  unfold zMo at c1m
  have hmd3 : zMd (zup h3 m (13, zMF m (yup (yup (yup (yup F 8 (nI (ysz t))) 8 (nI (ysz (yder c t)))) 11 (nI (ypr (yder c t)).length)) 11 0))) m (yup (yup F 8 (nI (ysz t))) 8 (nI (ysz (yder c t)))) [] := ⟨by unfold zMo; rw [zup_at, yup_yup]; rfl, zLst_cg (zLst_0 c1.2) (zup_ne (by omega)) (zup_ne (by omega))⟩
  have hlk3 : zLst (zup h3 m (13, zMF m (yup (yup (yup (yup F 8 (nI (ysz t))) 8 (nI (ysz (yder c t)))) 11 (nI (ypr (yder c t)).length)) 11 0))) (m + 5) (m + 6) ([] ++ ypr (yder c t) ++ []) := by
    rw [List.append_nil, List.nil_append]
    exact zLst_cg c2 (zup_ne (by omega)) (zup_ne (by omega))
  obtain ⟨h4, e6, g1, g2⟩ := e_222 (sv := sv) (yder c t) d1 (d + 20) [] [] [] _ (by omega) hlk3 hmd3 ynk_nil (by show 0 + ysz (yder c t) ≤ 700; omega)
  rw [List.nil_append] at g1
  have fr : ∀ q, q ≠ m → q ≠ m + 5 → q ≠ m + 6 → q ≠ m + 7 → q ≠ m + 8 → h4.1 q = h.1 q := fun q n0 n5 n6 n7 n8 => by
    rw [g2.1 q n0 n7 n8, zup_ne n0, c3 q n0 n5 n6, b2.1 q n0 n7 n8, zup_ne n0, a3 q n0 n5 n6]
  have g1m := g1.1
  rw [hls] at g1m
  refine ⟨h4, _, ?_, ⟨g1m, ⟨N, zTab_cg hN (fr _ (by omega) (by omega) (by omega) (by omega) (by omega)), hn⟩, zScm_of hs0 (zLst_fm hlk3 g2) g1.2 (fun a ha => fr a (by omega) (by omega) (by omega) (by omega) (by omega))⟩, g1.2, yff_tr (yff_up (j := 8) (by decide)) (yff_up (by decide)), ⟨fun q q1 q2 q3 => fr q q1 (by omega) (by omega) (by omega) (by omega), by rw [g2.2]; show h3.2 = h.2; rw [c4, b2.2]; exact a4⟩⟩
  intro x h' ex
  have E4 : zcall zP sv (d + 20) 224 [.ref m, .int 0, .int (c - nI 97)] (zup h1 m (13, zMF m (yup (yup F 8 (nI (ysz t))) 11 0))) = some (.inl (some (.int (nI (0 + ysz t)))), h2) := by
    rw [← nI_0]
    rw [← nI_0] at e4
    exact e4
  have E6 : zcall zP sv (d + 20) 222 [.ref m, .int 0] (zup h3 m (13, zMF m (yup (yup (yup (yup F 8 (nI (ysz t))) 8 (nI (ysz (yder c t)))) 11 (nI (ypr (yder c t)).length)) 11 0))) = some (.inl (some (.int (nI (0 + ysz (yder c t))))), h4) := by
    rw [← nI_0]
    rw [← nI_0] at e6
    exact e6
  have hr2 : ∀ X : zR, zrc (h2.1 m) 13 X = X := fun X => zMo_rc b1.1
  have hr4 : ∀ X : zR, zrc (h4.1 m) 13 X = X := fun X => zMo_rc g1m
  simp (disch := first | exact znw_u | exact znw_i | omega) only [zc_240, zs_240_0, zs_240_1, zs_240_2, zs_240_5, zs_240_8, zs_240_9, zs_240_10, zs_240_11, zs_240_14, zs_240_17, zs_240_18, zs_240_19, zs_240_20, zs_240_23, zs_240_24, zs_240_25, zs_240_27, zs_240_30, zs_240_31, zs_240_32, zs_240_33, zs_240_34, zs_240_37, zs_240_38, zs_240_39, zs_240_42, zs_240_43, zs_240_44, zs_240_45, zs_240_47, zs_240_48, zs_240_51, zs_240_52, zs_240_53, zs_240_56, zs_240_57, zs_240_58, zs_240_61, zs_240_62, zs_240_63, zs_240_66, zs_240_67, zs_240_68, zs_240_69, zs_240_72, hmm, zmf_0, hN1, e0, if_neg g6, zrc_13v, zup_at, E1, E2, E3, a1', zmp_11, E4, hr2, E5, c1m, E6, hr4, ex, zbk_v, zts_s, zts_n, nI_1e0, ↓reduceIte]
end ZME

/-- what a variable's leaves become -/
def ysb1 (x : Int32) (u : yP) (q : Int32 × Int32) : yP := if q.1 = nI 118 ∧ q.2 = x then u else [q]
def yct (x : Int32) (p : yP) : Nat := p.countP (fun q => decide (q.1 = nI 118) && decide (q.2 = x))
theorem yva_v {v : Int32} : yva (nI 118) v = v - nI 97 := if_pos rfl
theorem ypr_yins {c : Int32} {u : yT} : ∀ t : yT, (t = .leaf ∨ ytw t = true) → ypr (yins c u t) = (ypr t).flatMap (ysb1 (c - nI 97) (ypr u))
  | .leaf, _ => rfl
  | .inner n k v l r, h => by
    have ht : ytw (.inner n k v l r) = true := h.elim (fun q => by cases q) id
    have hel := ytw_el ht
    have hl : l = .leaf ∨ ytw l = true := by rcases hel with g | g | g | g <;> first | exact Or.inl g.2.1 | exact Or.inl g.2.2.1 | exact Or.inr g.2.2.1
    have hr : r = .leaf ∨ ytw r = true := by rcases hel with g | g | g | g <;> first | exact Or.inl g.2.2 | exact Or.inl g.2.2.2 | exact Or.inr g.2.2.2
    have i1 := ypr_yins (c := c) (u := u) l hl
    have i2 := ypr_yins (c := c) (u := u) r hr
    show ypr (if k = nI 118 ∧ v = c then u else ymk k v (yins c u l) (yins c u r)) = ((k, yva k v) :: (ypr l ++ ypr r)).flatMap (ysb1 (c - nI 97) (ypr u))
    rw [List.flatMap_cons, List.flatMap_append, ← i1, ← i2]
    by_cases hk : k = nI 118
    · subst hk
      have hlv : l = .leaf ∧ r = .leaf := by
        rcases hel with g | g | g | g
        · exact ⟨g.2.1, g.2.2⟩
        · exact ⟨g.2.2.1, g.2.2.2⟩
        · exact absurd g.1 (by decide +kernel)
        · exact absurd g.1 (by decide +kernel)
      obtain ⟨rfl, rfl⟩ := hlv
      by_cases hv : v = c
      · subst hv
        rw [if_pos ⟨rfl, rfl⟩]
        unfold ysb1
        rw [if_pos ⟨rfl, yva_v⟩]
        show _ = ypr u ++ ([] ++ [])
        rw [List.append_nil, List.append_nil]
      · rw [if_neg (fun q => hv q.2)]
        unfold ysb1
        rw [if_neg (fun q => hv (by
          have q2 : yva (nI 118) v = c - nI 97 := q.2
          rw [yva_v] at q2
          rw [← Int32.sub_add_cancel v (nI 97), q2, Int32.sub_add_cancel]))]
        rfl
    · rw [if_neg (fun q => hk q.1)]
      unfold ysb1
      rw [if_neg (fun q => hk q.1)]
      rfl
theorem yct_cons {x : Int32} {q : Int32 × Int32} {p : yP} : yct x (q :: p) = yct x p + (if q.1 = nI 118 ∧ q.2 = x then 1 else 0) := by
  unfold yct
  rw [List.countP_cons]
  by_cases h1 : q.1 = nI 118 <;> by_cases h2 : q.2 = x <;> simp only [h1, h2, decide_true, decide_false, Bool.and_self, Bool.and_true, Bool.and_false, Bool.true_and, Bool.false_and, and_self, and_true, and_false, true_and, false_and, if_true, if_false, Bool.false_eq_true]
theorem ysb1_len {x : Int32} {u : yP} {n : Nat} (hu : u.length = n + 1) : ∀ p : yP, (p.flatMap (ysb1 x u)).length = p.length + yct x p * n
  | [] => by show 0 = 0 + 0 * n; omega
  | q :: p => by
    have ih := ysb1_len (x := x) hu p
    rw [List.flatMap_cons, List.length_append, ih, yct_cons, List.length_cons]
    unfold ysb1
    by_cases h : q.1 = nI 118 ∧ q.2 = x
    · rw [if_pos h, if_pos h, hu, Nat.add_mul]
      omega
    · rw [if_neg h, if_neg h, List.length_singleton, Nat.add_zero (yct x p)]
      omega
theorem yct_len {x : Int32} {p : yP} : yct x p ≤ p.length := List.countP_le_length
theorem ynk_sub {x : Int32} {u : yP} (hu : ynk u) : ∀ p : yP, ynk p → ynk (p.flatMap (ysb1 x u))
  | [], _ => ynk_nil
  | q :: p, h => by
    rw [List.flatMap_cons]
    refine ynk_app ?_ (ynk_sub hu p (fun y hy => h y (List.mem_cons_of_mem _ hy)))
    unfold ysb1
    split
    · exact hu
    · exact ynk_cons (h q (List.mem_cons_self ..)) ynk_nil
section ZMF
variable {sv : Nat → Value} {d : Nat} {h : zH} {m : Nat} {F : Nat → Int32} {A : yA} {N : List Int32}
theorem e_242l {x : Int32} {p : yP} (hm : h.1 m = (13, zMF m F)) (h8 : F 8 = nI p.length) (hl : zLst h (m + 5) (m + 6) p) : ∀ n j, j + n = p.length → zrun zP sv (zcall zP sv d) 242 4 [.val (.ref m), .val (.int x), .val (.int (nI (yct x (p.take j)))), .val (.int (nI j))] [] h = some (.inl (some (.int (nI (yct x p)))), h) := by
  intro n
  induction n with
  | zero =>
    intro j hj
    obtain rfl : j = p.length := by omega
    simp only [zs_242_0, zs_242_1, zs_242_2, zs_242_3, zs_242_4, zs_242_5, zs_242_6, zs_242_9, zs_242_12, zs_242_13, zs_242_16, zs_242_17, zs_242_18, zs_242_20, zs_242_23, zs_242_24, zs_242_27, zs_242_28, zs_242_29, zs_242_30, zs_242_33, zs_242_36, zs_242_39, zs_242_42, zs_242_43, hm, zmf_8, h8, Int32.lt_irrefl, ↓reduceIte, List.take_length]
  | succ n ih =>
    intro j hj
    obtain ⟨y, hy⟩ : ∃ y, p[j]? = some y := ⟨_, List.getElem?_eq_getElem (by omega)⟩
    obtain ⟨A, B, a1, a2, a3, a4, a5⟩ := e_look (k := y.1) (v := y.2) hl hy
    have e := ih (j + 1) (by omega)
    have hc : yct x (p.take (j + 1)) = yct x (p.take j) + (if y.1 = nI 118 ∧ y.2 = x then 1 else 0) := by
      have z : yct x [y] = 0 + (if y.1 = nI 118 ∧ y.2 = x then 1 else 0) := yct_cons
      rw [List.take_add_one, hy, Nat.zero_add] at *
      unfold yct at *
      rw [List.countP_append]
      exact congrArg _ z
    have hlp : p.length ≤ 700 := by
      obtain ⟨_, _, _, _, _, _, _, _, b⟩ := hl
      exact b
    have g1 : nI j < nI p.length := nI_lt (by omega) (by omega)
    rw [hc] at e
    by_cases c1 : y.1 = nI 118
    · by_cases c2 : y.2 = x
      · rw [if_pos ⟨c1, c2⟩] at e
        simp only [zs_242_0, zs_242_1, zs_242_2, zs_242_3, zs_242_4, zs_242_5, zs_242_6, zs_242_9, zs_242_12, zs_242_13, zs_242_16, zs_242_17, zs_242_18, zs_242_20, zs_242_23, zs_242_24, zs_242_27, zs_242_28, zs_242_29, zs_242_30, zs_242_42, zs_242_43, hm, zmf_6, zmf_7, zmf_8, h8, if_pos g1, a1, a2, a3, a4, c1, c2, ↓reduceIte]
        rw [zs_242_33, zs_242_36, zs_242_39, nI_1', nI_1']
        exact e
      · rw [if_neg (fun q => c2 q.2)] at e
        simp only [zs_242_0, zs_242_1, zs_242_2, zs_242_3, zs_242_4, zs_242_5, zs_242_6, zs_242_9, zs_242_12, zs_242_13, zs_242_16, zs_242_17, zs_242_18, zs_242_20, zs_242_23, zs_242_24, zs_242_27, zs_242_28, zs_242_29, zs_242_30, zs_242_33, zs_242_42, zs_242_43, hm, zmf_6, zmf_7, zmf_8, h8, if_pos g1, a1, a2, a3, a4, c1, c2, ↓reduceIte]
        rw [zs_242_36, zs_242_39, nI_1']
        exact e
    · rw [if_neg (fun q => c1 q.1)] at e
      simp only [zs_242_0, zs_242_1, zs_242_2, zs_242_3, zs_242_4, zs_242_5, zs_242_6, zs_242_9, zs_242_12, zs_242_13, zs_242_16, zs_242_17, zs_242_18, zs_242_20, zs_242_23, zs_242_24, zs_242_27, zs_242_28, zs_242_29, zs_242_30, zs_242_33, zs_242_42, zs_242_43, hm, zmf_6, zmf_7, zmf_8, h8, if_pos g1, a1, a2, a3, a4, c1, ↓reduceIte]
      rw [zs_242_36, zs_242_39, nI_1']
      exact e
theorem e_242 {x : Int32} {p : yP} (hm : zMo h m F) (h8 : F 8 = nI p.length) (hl : zLst h (m + 5) (m + 6) p) : zcall zP sv (d + 1) 242 [.ref m, .int x] h = some (.inl (some (.int (nI (yct x p)))), h) := by
  have e := e_242l (sv := sv) (d := d) (x := x) hm h8 hl p.length 0 (Nat.zero_add _)
  rw [List.take_zero] at e
  have e0 : yct x [] = 0 := rfl
  rw [e0, nI_0] at e
  rw [zc_242]
  simp (disch := exact znw_u) only [zs_242_0, zs_242_1, zs_242_2, zs_242_3]
  exact e
end ZMF

section ZMG
variable {sv : Nat → Value} {d : Nat} {h : zH} {m : Nat} {F : Nat → Int32} {A : yA} {N : List Int32}
theorem e_243i {u : yP} {b : Nat} {l1 l2 l3 l5 : Slot} (hb : ybk N b u) (hN2 : N.length = 387) : ∀ n j (h : zH) (qs : yP), j + n = u.length → zMd h m F (qs ++ u.take j) → zTab h (m + 1) N → qs.length + u.length ≤ 700 → ∃ h', zrun zP sv (zcall zP sv (d + 1)) 243 138 [.val (.ref m), l1, l2, l3, .val (.int (nI b)), l5, .val (.int (nI j))] [] h = zrun zP sv (zcall zP sv (d + 1)) 243 189 [.val (.ref m), l1, l2, l3, .val (.int (nI b)), l5, .val (.int (nI u.length))] [] h' ∧ zMd h' m F (qs ++ u) ∧ zfm m h h' := by
  intro n
  induction n with
  | zero =>
    intro j h qs hj hm hN hq
    obtain rfl : j = u.length := by omega
    rw [List.take_length] at hm
    refine ⟨h, ?_, hm, zfm_rfl⟩
    have hm1 := hm.1
    unfold zMo at hm1
    have hN1 := hN.1
    have e0 : ∀ Kv, zael (20, N.map Value.int) 20 (nI b) Kv = Kv (.int (nI u.length)) := fun Kv => zaelv (by rw [List.getElem?_map, hb.1]; rfl) (by have := hb.2.2.2.1; omega)
    simp only [zs_243_0, zs_243_1, zs_243_2, zs_243_5, zs_243_8, zs_243_9, zs_243_10, zs_243_13, zs_243_16, zs_243_17, zs_243_18, zs_243_19, zs_243_22, zs_243_25, zs_243_26, zs_243_27, zs_243_28, zs_243_29, zs_243_32, zs_243_34, zs_243_36, zs_243_37, zs_243_38, zs_243_39, zs_243_41, zs_243_42, zs_243_45, zs_243_46, zs_243_47, zs_243_49, zs_243_50, zs_243_53, zs_243_54, zs_243_57, zs_243_59, zs_243_60, zs_243_61, zs_243_62, zs_243_63, zs_243_64, zs_243_66, zs_243_69, zs_243_70, zs_243_71, zs_243_72, zs_243_73, zs_243_76, zs_243_77, zs_243_79, zs_243_81, zs_243_82, zs_243_85, zs_243_88, zs_243_89, zs_243_92, zs_243_94, zs_243_95, zs_243_97, zs_243_100, zs_243_101, zs_243_104, zs_243_106, zs_243_107, zs_243_108, zs_243_110, zs_243_111, zs_243_114, zs_243_115, zs_243_116, zs_243_119, zs_243_121, zs_243_122, zs_243_123, zs_243_126, zs_243_128, zs_243_129, zs_243_132, zs_243_135, zs_243_136, zs_243_138, zs_243_140, zs_243_141, zs_243_144, zs_243_146, zs_243_147, zs_243_150, zs_243_151, zs_243_152, zs_243_155, zs_243_157, zs_243_158, zs_243_159, zs_243_160, zs_243_162, zs_243_163, zs_243_164, zs_243_165, zs_243_166, zs_243_167, zs_243_170, zs_243_172, zs_243_173, zs_243_174, zs_243_175, zs_243_177, zs_243_178, zs_243_179, zs_243_180, zs_243_183, zs_243_186, zs_243_192, zs_243_195, zs_243_196, zs_243_199, zs_243_200, zs_243_203, zs_243_206, zs_243_207, zs_243_208, zs_243_209, zs_243_210, zs_243_213, zs_243_214, zs_243_215, zs_243_218, zs_243_221, hm1, zmf_0, hN1, e0, Int32.lt_irrefl, ↓reduceIte]
  | succ n ih =>
    intro j h qs hj hm hN hq
    obtain ⟨y, hy⟩ : ∃ y, u[j]? = some y := ⟨_, List.getElem?_eq_getElem (by omega)⟩
    obtain ⟨c1, c2, c3, c4, c5⟩ := id hb
    obtain ⟨a3, a4⟩ := c2 j y hy
    have hm1 := hm.1
    unfold zMo at hm1
    have hN1 := hN.1
    have e0 : ∀ Kv, zael (20, N.map Value.int) 20 (nI b) Kv = Kv (.int (nI u.length)) := fun Kv => zaelv (by rw [List.getElem?_map, c1]; rfl) (by omega)
    have a3' : ∀ Kv, zael (20, N.map Value.int) 20 (nI (b + 1 + 2 * j)) Kv = Kv (.int y.1) := fun Kv => zaelv (by rw [List.getElem?_map, a3]; rfl) (by omega)
    have a4' : ∀ Kv, zael (20, N.map Value.int) 20 (nI (b + 2 + 2 * j)) Kv = Kv (.int y.2) := fun Kv => zaelv (by rw [List.getElem?_map, a4]; rfl) (by omega)
    have hky := c5 y (List.mem_of_getElem? hy)
    have hjl : (u.take j).length = j := by rw [List.length_take]; omega
    obtain ⟨h1, e1, b1, b2⟩ := e_216 (sv := sv) (d := d) (k := y.1) (v := y.2) hm (by rw [List.length_append, hjl]; omega) hky
    have htk : u.take (j + 1) = u.take j ++ [y] := by rw [List.take_add_one, hy]; rfl
    rw [List.append_assoc, ← htk] at b1
    obtain ⟨h', e, q1, q2⟩ := ih (j + 1) h1 qs (by omega) b1 (zTab_cg hN (b2.1 _ (by omega) (by omega) (by omega))) hq
    refine ⟨h', ?_, q1, zfm_tr b2 q2⟩
    have g1 : nI j < nI u.length := nI_lt (by omega) (by omega)
    have hr1 : ∀ X : zR, zrc (h.1 m) 13 X = X := fun X => zMd_rc hm
    rw [← e]
    have e2 : zrun zP sv (zcall zP sv (d + 1)) 243 183 [.val (.ref m), l1, l2, l3, .val (.int (nI b)), l5, .val (.int (nI j))] [] h1 = zrun zP sv (zcall zP sv (d + 1)) 243 138 [.val (.ref m), l1, l2, l3, .val (.int (nI b)), l5, .val (.int (nI (j + 1)))] [] h1 := by rw [zs_243_183, zs_243_186, nI_1']
    rw [← e2]
    have E1 : zcall zP sv (d + 1) 216 [.ref m, .int (ynr y.1), .int y.2] h = some (.inl none, h1) := by rw [hky]; exact e1
    simp only [zs_243_0, zs_243_1, zs_243_2, zs_243_5, zs_243_8, zs_243_9, zs_243_10, zs_243_13, zs_243_16, zs_243_17, zs_243_18, zs_243_19, zs_243_22, zs_243_25, zs_243_26, zs_243_27, zs_243_28, zs_243_29, zs_243_32, zs_243_34, zs_243_36, zs_243_37, zs_243_38, zs_243_39, zs_243_41, zs_243_42, zs_243_45, zs_243_46, zs_243_47, zs_243_49, zs_243_50, zs_243_53, zs_243_54, zs_243_57, zs_243_59, zs_243_60, zs_243_61, zs_243_62, zs_243_63, zs_243_64, zs_243_66, zs_243_69, zs_243_70, zs_243_71, zs_243_72, zs_243_73, zs_243_76, zs_243_77, zs_243_79, zs_243_81, zs_243_82, zs_243_85, zs_243_88, zs_243_89, zs_243_92, zs_243_94, zs_243_95, zs_243_97, zs_243_100, zs_243_101, zs_243_104, zs_243_106, zs_243_107, zs_243_108, zs_243_110, zs_243_111, zs_243_114, zs_243_115, zs_243_116, zs_243_119, zs_243_121, zs_243_122, zs_243_123, zs_243_126, zs_243_128, zs_243_129, zs_243_132, zs_243_135, zs_243_136, zs_243_138, zs_243_140, zs_243_141, zs_243_144, zs_243_146, zs_243_147, zs_243_150, zs_243_151, zs_243_152, zs_243_155, zs_243_157, zs_243_158, zs_243_159, zs_243_160, zs_243_162, zs_243_163, zs_243_164, zs_243_165, zs_243_166, zs_243_167, zs_243_170, zs_243_172, zs_243_173, zs_243_174, zs_243_175, zs_243_177, zs_243_178, zs_243_179, zs_243_180, zs_243_192, zs_243_195, zs_243_196, zs_243_199, zs_243_200, zs_243_203, zs_243_206, zs_243_207, zs_243_208, zs_243_209, zs_243_210, zs_243_213, zs_243_214, zs_243_215, zs_243_218, zs_243_221, hm1, zmf_0, hN1, e0, if_pos g1, nI_mulx, nI_add, a3', a4', ynr_c, zrc_13v, E1, zbk_v, zts_n]
theorem ytk_flat {x : Int32} {u p : yP} {j : Nat} {y : Int32 × Int32} (hy : p[j]? = some y) : (p.take (j + 1)).flatMap (ysb1 x u) = (p.take j).flatMap (ysb1 x u) ++ ysb1 x u y := by
  rw [List.take_add_one, hy, List.flatMap_append]
  show _ ++ (ysb1 x u y ++ []) = _
  rw [List.append_nil]
theorem ytk_le {x : Int32} {u p : yP} {j : Nat} : ((p.take j).flatMap (ysb1 x u)).length ≤ (p.flatMap (ysb1 x u)).length := by
  have e : p.flatMap (ysb1 x u) = (p.take j).flatMap (ysb1 x u) ++ (p.drop j).flatMap (ysb1 x u) := by rw [← List.flatMap_append, List.take_append_drop]
  rw [e, List.length_append]
  omega
theorem e_243l {c : Int32} {u p : yP} {b : Nat} {l1 l3 : Slot} (hb : ybk N b u) (hN2 : N.length = 387) (h8 : F 8 = nI p.length) (hk : ynk p) (hle : (p.flatMap (ysb1 (c - nI 97) u)).length ≤ 700) : ∀ n j (h : zH) (s6 : Slot), znw s6 = true → j + n = p.length → zMd h m F ((p.take j).flatMap (ysb1 (c - nI 97) u)) → zTab h (m + 1) N → zLst h (m + 5) (m + 6) p → ∃ h' s6', zrun zP sv (zcall zP sv (d + 1)) 243 79 [.val (.ref m), l1, .val (.int c), l3, .val (.int (nI b)), .val (.int (nI j)), s6] [] h = zrun zP sv (zcall zP sv (d + 1)) 243 195 [.val (.ref m), l1, .val (.int c), l3, .val (.int (nI b)), .val (.int (nI p.length)), s6'] [] h' ∧ zMd h' m F (p.flatMap (ysb1 (c - nI 97) u)) ∧ zfm m h h' := by
  intro n
  induction n with
  | zero =>
    intro j h s6 h6 hj hm hN hl
    obtain rfl : j = p.length := by omega
    rw [List.take_length] at hm
    refine ⟨h, s6, ?_, hm, zfm_rfl⟩
    have hm1 := hm.1
    unfold zMo at hm1
    have v8 : yup F 11 (nI (p.flatMap (ysb1 (c - nI 97) u)).length) 8 = nI p.length := by rw [yup_ne (by omega), h8]
    simp only [zs_243_0, zs_243_1, zs_243_2, zs_243_5, zs_243_8, zs_243_9, zs_243_10, zs_243_13, zs_243_16, zs_243_17, zs_243_18, zs_243_19, zs_243_22, zs_243_25, zs_243_26, zs_243_27, zs_243_28, zs_243_29, zs_243_32, zs_243_34, zs_243_36, zs_243_37, zs_243_38, zs_243_39, zs_243_41, zs_243_42, zs_243_45, zs_243_46, zs_243_47, zs_243_49, zs_243_50, zs_243_53, zs_243_54, zs_243_57, zs_243_59, zs_243_60, zs_243_61, zs_243_62, zs_243_63, zs_243_64, zs_243_66, zs_243_69, zs_243_70, zs_243_71, zs_243_72, zs_243_73, zs_243_76, zs_243_77, zs_243_79, zs_243_81, zs_243_82, zs_243_85, zs_243_88, zs_243_89, zs_243_92, zs_243_94, zs_243_95, zs_243_97, zs_243_100, zs_243_101, zs_243_104, zs_243_106, zs_243_107, zs_243_108, zs_243_110, zs_243_111, zs_243_114, zs_243_115, zs_243_116, zs_243_119, zs_243_121, zs_243_122, zs_243_123, zs_243_126, zs_243_128, zs_243_129, zs_243_132, zs_243_135, zs_243_136, zs_243_138, zs_243_140, zs_243_141, zs_243_144, zs_243_146, zs_243_147, zs_243_150, zs_243_151, zs_243_152, zs_243_155, zs_243_157, zs_243_158, zs_243_159, zs_243_160, zs_243_162, zs_243_163, zs_243_164, zs_243_165, zs_243_166, zs_243_167, zs_243_170, zs_243_172, zs_243_173, zs_243_174, zs_243_175, zs_243_177, zs_243_178, zs_243_179, zs_243_180, zs_243_183, zs_243_186, zs_243_189, zs_243_192, zs_243_196, zs_243_199, zs_243_200, zs_243_203, zs_243_206, zs_243_207, zs_243_208, zs_243_209, zs_243_210, zs_243_213, zs_243_214, zs_243_215, zs_243_218, zs_243_221, hm1, zmf_8, v8, Int32.lt_irrefl, ↓reduceIte]
  | succ n ih =>
    intro j h s6 h6 hj hm hN hl
    obtain ⟨y, hy⟩ : ∃ y, p[j]? = some y := ⟨_, List.getElem?_eq_getElem (by omega)⟩
    obtain ⟨A', B', a1, a2, a3, a4, a5⟩ := e_look (k := y.1) (v := y.2) hl hy
    have hlp : p.length ≤ 700 := by
      obtain ⟨_, _, _, _, _, _, _, _, bb⟩ := hl
      exact bb
    have g1 : nI j < nI p.length := nI_lt (by omega) (by omega)
    have hm1 := hm.1
    unfold zMo at hm1
    have v8 : yup F 11 (nI ((p.take j).flatMap (ysb1 (c - nI 97) u)).length) 8 = nI p.length := by rw [yup_ne (by omega), h8]
    have hky := hk y (List.mem_of_getElem? hy)
    have hl1 := ytk_le (x := c - nI 97) (u := u) (p := p) (j := j + 1)
    have hfl := ytk_flat (x := c - nI 97) (u := u) hy
    rw [hfl, List.length_append] at hl1
    have e2 : ∀ (s : Slot) (g : zH), zrun zP sv (zcall zP sv (d + 1)) 243 189 [.val (.ref m), l1, .val (.int c), l3, .val (.int (nI b)), .val (.int (nI j)), s] [] g = zrun zP sv (zcall zP sv (d + 1)) 243 79 [.val (.ref m), l1, .val (.int c), l3, .val (.int (nI b)), .val (.int (nI (j + 1))), s] [] g := fun s g => by rw [zs_243_189, zs_243_192, nI_1']
    by_cases hc : y.1 = nI 118 ∧ y.2 = c - nI 97
    · have hsu : ysb1 (c - nI 97) u y = u := if_pos hc
      rw [hsu] at hfl hl1
      obtain ⟨h1, e1, b1, b2⟩ := e_243i (sv := sv) (d := d) (l1 := l1) (l2 := .val (.int c)) (l3 := l3) (l5 := .val (.int (nI j))) hb hN2 u.length 0 h _ (Nat.zero_add _) (by rw [List.take_zero, List.append_nil]; exact hm) hN (by omega)
      rw [← hfl] at b1
      obtain ⟨h', s', e, q1, q2⟩ := ih (j + 1) h1 (.val (.int (nI u.length))) rfl (by omega) b1 (zTab_cg hN (b2.1 _ (by omega) (by omega) (by omega))) (zLst_fm hl b2)
      refine ⟨h', s', ?_, q1, zfm_tr b2 q2⟩
      rw [← e, ← e2, ← e1]
      rw [nI_0]
      simp (disch := first | exact h6 | exact znw_i | omega) only [zs_243_79, zs_243_81, zs_243_82, zs_243_85, zs_243_88, zs_243_89, zs_243_92, zs_243_94, zs_243_95, zs_243_97, zs_243_100, zs_243_101, zs_243_104, zs_243_106, zs_243_107, zs_243_108, zs_243_110, zs_243_111, zs_243_135, zs_243_136, hm1, zmf_6, zmf_7, zmf_8, v8, if_pos g1, a1, a2, a3, a4, hc.1, hc.2, ↓reduceIte]
    · have hsu : ysb1 (c - nI 97) u y = [y] := if_neg hc
      rw [hsu] at hfl hl1
      rw [List.length_singleton] at hl1
      obtain ⟨h1, e1, b1, b2⟩ := e_216 (sv := sv) (d := d) (k := y.1) (v := y.2) hm (by omega) hky
      rw [← hfl] at b1
      obtain ⟨h', s', e, q1, q2⟩ := ih (j + 1) h1 s6 h6 (by omega) b1 (zTab_cg hN (b2.1 _ (by omega) (by omega) (by omega))) (zLst_fm hl b2)
      refine ⟨h', s', ?_, q1, zfm_tr b2 q2⟩
      rw [← e, ← e2]
      by_cases c1 : y.1 = nI 118
      · have c2 : ¬ y.2 = c - nI 97 := fun q => hc ⟨c1, q⟩
        rw [c1] at e1 a3
        simp only [zs_243_0, zs_243_1, zs_243_2, zs_243_5, zs_243_8, zs_243_9, zs_243_10, zs_243_13, zs_243_16, zs_243_17, zs_243_18, zs_243_19, zs_243_22, zs_243_25, zs_243_26, zs_243_27, zs_243_28, zs_243_29, zs_243_32, zs_243_34, zs_243_36, zs_243_37, zs_243_38, zs_243_39, zs_243_41, zs_243_42, zs_243_45, zs_243_46, zs_243_47, zs_243_49, zs_243_50, zs_243_53, zs_243_54, zs_243_57, zs_243_59, zs_243_60, zs_243_61, zs_243_62, zs_243_63, zs_243_64, zs_243_66, zs_243_69, zs_243_70, zs_243_71, zs_243_72, zs_243_73, zs_243_76, zs_243_77, zs_243_81, zs_243_82, zs_243_85, zs_243_88, zs_243_89, zs_243_92, zs_243_94, zs_243_95, zs_243_97, zs_243_100, zs_243_101, zs_243_104, zs_243_106, zs_243_107, zs_243_108, zs_243_110, zs_243_111, zs_243_114, zs_243_115, zs_243_116, zs_243_119, zs_243_121, zs_243_122, zs_243_123, zs_243_126, zs_243_128, zs_243_129, zs_243_132, zs_243_135, zs_243_136, zs_243_138, zs_243_140, zs_243_141, zs_243_144, zs_243_146, zs_243_147, zs_243_150, zs_243_151, zs_243_152, zs_243_155, zs_243_157, zs_243_158, zs_243_159, zs_243_160, zs_243_162, zs_243_163, zs_243_164, zs_243_165, zs_243_166, zs_243_167, zs_243_170, zs_243_172, zs_243_173, zs_243_174, zs_243_175, zs_243_177, zs_243_178, zs_243_179, zs_243_180, zs_243_183, zs_243_186, zs_243_192, zs_243_195, zs_243_196, zs_243_199, zs_243_200, zs_243_203, zs_243_206, zs_243_207, zs_243_208, zs_243_209, zs_243_210, zs_243_213, zs_243_214, zs_243_215, zs_243_218, zs_243_221, zs_243_79, hm1, zmf_6, zmf_7, zmf_8, v8, if_pos g1, a1, a2, a3, a4, c1, if_neg c2, zrc_13v, e1, zbk_v, zts_n, ↓reduceIte]
      · simp only [zs_243_0, zs_243_1, zs_243_2, zs_243_5, zs_243_8, zs_243_9, zs_243_10, zs_243_13, zs_243_16, zs_243_17, zs_243_18, zs_243_19, zs_243_22, zs_243_25, zs_243_26, zs_243_27, zs_243_28, zs_243_29, zs_243_32, zs_243_34, zs_243_36, zs_243_37, zs_243_38, zs_243_39, zs_243_41, zs_243_42, zs_243_45, zs_243_46, zs_243_47, zs_243_49, zs_243_50, zs_243_53, zs_243_54, zs_243_57, zs_243_59, zs_243_60, zs_243_61, zs_243_62, zs_243_63, zs_243_64, zs_243_66, zs_243_69, zs_243_70, zs_243_71, zs_243_72, zs_243_73, zs_243_76, zs_243_77, zs_243_81, zs_243_82, zs_243_85, zs_243_88, zs_243_89, zs_243_92, zs_243_94, zs_243_95, zs_243_97, zs_243_100, zs_243_101, zs_243_104, zs_243_106, zs_243_107, zs_243_108, zs_243_110, zs_243_111, zs_243_114, zs_243_115, zs_243_116, zs_243_119, zs_243_121, zs_243_122, zs_243_123, zs_243_126, zs_243_128, zs_243_129, zs_243_132, zs_243_135, zs_243_136, zs_243_138, zs_243_140, zs_243_141, zs_243_144, zs_243_146, zs_243_147, zs_243_150, zs_243_151, zs_243_152, zs_243_155, zs_243_157, zs_243_158, zs_243_159, zs_243_160, zs_243_162, zs_243_163, zs_243_164, zs_243_165, zs_243_166, zs_243_167, zs_243_170, zs_243_172, zs_243_173, zs_243_174, zs_243_175, zs_243_177, zs_243_178, zs_243_179, zs_243_180, zs_243_183, zs_243_186, zs_243_192, zs_243_195, zs_243_196, zs_243_199, zs_243_200, zs_243_203, zs_243_206, zs_243_207, zs_243_208, zs_243_209, zs_243_210, zs_243_213, zs_243_214, zs_243_215, zs_243_218, zs_243_221, zs_243_79, hm1, zmf_6, zmf_7, zmf_8, v8, if_pos g1, a1, a2, a3, a4, if_neg c1, zrc_13v, e1, zbk_v, zts_n, ↓reduceIte]
end ZMG

section ZMH
variable {sv : Nat → Value} {d : Nat} {h : zH} {m : Nat} {F : Nat → Int32} {A : yA} {N : List Int32}
theorem e_243a {i j : Nat} {c : Int32} (hw : zWk h m F A) (hA : yAok A) (hi : i < A.1.length) (hj : j < A.1.length) (hc : ylet c = false) : zcall zP sv (d + 21) 243 [.ref m, .int (nI i), .int c, .int (nI j)] h = some (.inl (some (.int (nI 2))), h) := by
  obtain ⟨hm, ⟨N, hN, hn⟩, hs⟩ := hw
  have E1 : zcall zP sv (d + 20) 203 [.ref m, .int (nI i)] h = some (.inl (some (.int (nI 1))), h) := e_203t (sv := sv) (d := d + 18) hm hN hn hi hA.1
  have E1' : zcall zP sv (d + 20) 203 [.ref m, .int (nI j)] h = some (.inl (some (.int (nI 1))), h) := e_203t (sv := sv) (d := d + 18) hm hN hn hj hA.1
  have E2 : zcall zP sv (d + 20) 204 [.int c] h = _ := e_204 (sv := sv) (d := d + 18) (c := c)
  rw [hc, yb_f] at E2
  have hr : ∀ X : zR, zrc (h.1 m) 13 X = X := fun X => zMo_rc hm
  simp only [zc_243, zs_243_0, zs_243_1, zs_243_2, zs_243_5, zs_243_8, zs_243_9, zs_243_10, zs_243_13, zs_243_16, zs_243_17, zs_243_18, zs_243_19, zs_243_22, zs_243_25, zs_243_26, zs_243_27, zs_243_28, zs_243_29, zs_243_32, zs_243_34, zs_243_36, zs_243_37, zs_243_38, zs_243_39, zs_243_41, zs_243_42, zs_243_45, zs_243_46, zs_243_47, zs_243_49, zs_243_50, zs_243_53, zs_243_54, zs_243_57, zs_243_59, zs_243_60, zs_243_61, zs_243_62, zs_243_63, zs_243_64, zs_243_66, zs_243_69, zs_243_70, zs_243_71, zs_243_72, zs_243_73, zs_243_76, zs_243_77, zs_243_79, zs_243_81, zs_243_82, zs_243_85, zs_243_88, zs_243_89, zs_243_92, zs_243_94, zs_243_95, zs_243_97, zs_243_100, zs_243_101, zs_243_104, zs_243_106, zs_243_107, zs_243_108, zs_243_110, zs_243_111, zs_243_114, zs_243_115, zs_243_116, zs_243_119, zs_243_121, zs_243_122, zs_243_123, zs_243_126, zs_243_128, zs_243_129, zs_243_132, zs_243_135, zs_243_136, zs_243_138, zs_243_140, zs_243_141, zs_243_144, zs_243_146, zs_243_147, zs_243_150, zs_243_151, zs_243_152, zs_243_155, zs_243_157, zs_243_158, zs_243_159, zs_243_160, zs_243_162, zs_243_163, zs_243_164, zs_243_165, zs_243_166, zs_243_167, zs_243_170, zs_243_172, zs_243_173, zs_243_174, zs_243_175, zs_243_177, zs_243_178, zs_243_179, zs_243_180, zs_243_183, zs_243_186, zs_243_189, zs_243_192, zs_243_195, zs_243_196, zs_243_199, zs_243_200, zs_243_203, zs_243_206, zs_243_207, zs_243_208, zs_243_209, zs_243_210, zs_243_213, zs_243_214, zs_243_215, zs_243_218, zs_243_221, hr, E1, E1', E2, zbk_v, zts_s, nI_1e0, ↓reduceIte]
/-- substitutes: what the two terms make -/
theorem ysz_yins {c : Int32} {t u : yT} {n : Nat} (ht : ytw t = true) (hu : ysz u = n + 1) : ysz (yins c u t) = ysz t + yct (c - nI 97) (ypr t) * n := by
  have e := congrArg List.length (ypr_yins (c := c) (u := u) t (Or.inr ht))
  rw [ypr_len, ysb1_len (by rw [ypr_len]; exact hu), ypr_len] at e
  exact e
theorem e_243m {i j : Nat} {c : Int32} {t u : yT} (hw : zWk h m F A) (hA : yAok A) (hi : A.1[i]? = some t) (hj : A.1[j]? = some u) (hc : ylet c = true) : ∃ (h1 : zH) (F1 : Nat → Int32) (s4 s5 s6 : Slot), zcall zP sv (d + 21) 243 [.ref m, .int (nI i), .int c, .int (nI j)] h = (if ysz (yins c u t) ≤ 31 then zrun zP sv (zcall zP sv (d + 20)) 243 203 [.val (.ref m), .val (.int (nI i)), .val (.int c), .val (.int (nI j)), s4, s5, s6] [.int (yb (decide (ysz (yins c u t) ≤ 31) && decide (ydp (yins c u t) ≤ 8)))] h1 else some (.inl (some (.int (nI 3))), h1)) ∧ zWk h1 m F1 A ∧ (ysz (yins c u t) ≤ 31 → F1 8 = nI (ysz (yins c u t)) ∧ zLst h1 (m + 5) (m + 6) (ypr (yins c u t))) ∧ yff F F1 ∧ zwf m h h1 := by
  obtain ⟨hm, ⟨N, hN, hn⟩, hs⟩ := hw
  have hs0 := hs
  obtain ⟨⟨p0, l5⟩, ⟨p1, l7⟩, hsf, _⟩ := hs
  have hil := (List.getElem?_eq_some_iff.mp hi).1
  have hjl := (List.getElem?_eq_some_iff.mp hj).1
  have hA1 := hA.1
  obtain ⟨t1, t2, t3⟩ := hA.2.1 t (List.mem_of_getElem? hi)
  obtain ⟨u1, u2, u3⟩ := hA.2.1 u (List.mem_of_getElem? hj)
  have hup := ytw_sz u1
  obtain ⟨su, hsu⟩ : ∃ su, ysz u = su + 1 := ⟨ysz u - 1, by omega⟩
  have E1 : zcall zP sv (d + 20) 203 [.ref m, .int (nI i)] h = some (.inl (some (.int (nI 1))), h) := e_203t (sv := sv) (d := d + 18) hm hN hn hil hA1
  have E1' : zcall zP sv (d + 20) 203 [.ref m, .int (nI j)] h = some (.inl (some (.int (nI 1))), h) := e_203t (sv := sv) (d := d + 18) hm hN hn hjl hA1
  have E2 : zcall zP sv (d + 20) 204 [.int c] h = _ := e_204 (sv := sv) (d := d + 18) (c := c)
  rw [hc, yb_t] at E2
  have hmm := hm
  unfold zMo at hmm
  have hN1 := hN.1
  have hN2 := hN.2
  have hlt := ypr_len t
  have hlu := ypr_len u
  have hbu := hn.2.2.2.2.2 j u hj
  obtain ⟨h1, e3, a1, a2, a3, a4⟩ := e_206 (sv := sv) (d := d + 19) (hn.2.2.2.2.2 i t hi) hm hN l5
  rw [hlt] at a1
  have E3 : zcall zP sv (d + 20) 206 [.ref m, .int (nI i)] h = some (.inl none, h1) := e3
  have a1' := a1
  unfold zMo at a1'
  have hT1 : zTab h1 (m + 1) N := zTab_cg hN (a3 _ (by omega) (by omega) (by omega))
  have hT1' := hT1.1
  have E4 : zcall zP sv (d + 20) 242 [.ref m, .int (c - nI 97)] h1 = _ := e_242 (sv := sv) (d := d + 19) (x := c - nI 97) a1 (by rw [yup_eq, hlt]) a2
  have hct := yct_len (x := c - nI 97) (p := ypr t)
  rw [hlt] at hct
  have hmul : yct (c - nI 97) (ypr t) * su ≤ 31 * 31 := Nat.mul_le_mul (by omega) (by omega)
  have hz := ysz_yins (c := c) t1 hsu
  have e0 : ∀ Kv, zael (20, N.map Value.int) 20 (nI (9 + 63 * j)) Kv = Kv (.int (nI (su + 1))) := fun Kv => zaelv (by rw [List.getElem?_map, hbu.1, hlu, hsu]; rfl) (by omega)
  have w1 : zWk h1 m (yup F 8 (nI (ysz t))) A := ⟨a1, ⟨N, hT1, hn⟩, zScm_of hs0 a2 (zLst_cg l7 (a3 _ (by omega) (by omega) (by omega)) (a3 _ (by omega) (by omega) (by omega))) (fun a ha => a3 a (by omega) (by omega) (by omega))⟩
  have hr1 : ∀ X : zR, zrc (h1.1 m) 13 X = X := fun X => zMo_rc a1
  by_cases hg : ysz (yins c u t) ≤ 31
  · have g1 : ¬ nI 31 < nI (ysz t + yct (c - nI 97) (ypr t) * su) := nI_nlt (by omega) (by omega)
    have hm0 : zMo (zup h1 m (13, zMF m (yup (yup F 8 (nI (ysz t))) 11 0))) m (yup (yup F 8 (nI (ysz t))) 11 0) := zMo_up
    have hmd : zMd (zup h1 m (13, zMF m (yup (yup F 8 (nI (ysz t))) 11 0))) m (yup F 8 (nI (ysz t))) (((ypr t).take 0).flatMap (ysb1 (c - nI 97) (ypr u))) := ⟨by unfold zMo; rw [zup_at]; rfl, zLst_cg (zLst_0 l7) (by rw [zup_ne (by omega), a3 _ (by omega) (by omega) (by omega)]) (by rw [zup_ne (by omega), a3 _ (by omega) (by omega) (by omega)])⟩
    have hlk : zLst (zup h1 m (13, zMF m (yup (yup F 8 (nI (ysz t))) 11 0))) (m + 5) (m + 6) (ypr t) := zLst_cg a2 (zup_ne (by omega)) (zup_ne (by omega))
    have hpi := ypr_yins (c := c) (u := u) t (Or.inr t1)
    have hli := ypr_len (yins c u t)
    obtain ⟨h2, s6', e5, b1, b2⟩ := e_243l (sv := sv) (d := d + 19) (c := c) (l1 := .val (.int (nI i))) (l3 := .val (.int (nI j))) hbu hN2 (by rw [yup_eq, hlt]) (ynk_ypr t (Or.inr t1)) (by rw [← hpi, hli]; omega) (ypr t).length 0 _ .unset rfl (Nat.zero_add _) hmd (zTab_cg hT1 (zup_ne (by omega))) hlk
    rw [← hpi] at b1
    have ti := ytw_yins (c := c) u1 t t1
    have hki := ynk_ypr (yins c u t) (Or.inr ti)
    have hlk2 : zLst h2 (m + 5) (m + 6) (ypr t) := zLst_fm hlk b2
    obtain ⟨h3, e6, c1, c2, c3, c4⟩ := e_207 (sv := sv) (d := d + 19) b1 hki hlk2
    have E6 : zcall zP sv (d + 20) 207 [.ref m] h2 = some (.inl none, h3) := e6
    rw [hli] at c1
    have c1m := c1.1
    rw [hli] at c1m
    have fr3 : ∀ q, q ≠ m → q ≠ m + 5 → q ≠ m + 6 → q ≠ m + 7 → q ≠ m + 8 → h3.1 q = h.1 q := fun q n0 n5 n6 n7 n8 => by
      rw [c3 q n0 n5 n6, b2.1 q n0 n7 n8, zup_ne n0, a3 q n0 n5 n6]
    have hT3 : zTab h3 (m + 1) N := zTab_cg hN (fr3 _ (by omega) (by omega) (by omega) (by omega) (by omega))
    have hs3 : zScm h3 m := zScm_of hs0 c2 c1.2 (fun a ha => fr3 a (by omega) (by omega) (by omega) (by omega) (by omega))
    have v8 : yup (yup (yup F 8 (nI (ysz t))) 8 (nI (ysz (yins c u t)))) 11 (nI (ysz (yins c u t))) 8 = nI (ysz (yins c u t)) := by rw [yup_ne (by omega), yup_eq]
    obtain ⟨h4, e7, g1', g2'⟩ := e_215 (sv := sv) (d := d + 16) ti (by omega) c1m v8 c2 hT3.1 hT3.2 (zSF_cg hsf (fr3 _ (by omega) (by omega) (by omega) (by omega) (by omega)) (fr3 _ (by omega) (by omega) (by omega) (by omega) (by omega)))
    have E7 : zcall zP sv (d + 20) 215 [.ref m] h3 = _ := e7
    have l54 : zLst h4 (m + 5) (m + 6) (ypr (yins c u t)) := zLst_cg c2 (g2'.1 _ (by omega) (by omega)) (g2'.1 _ (by omega) (by omega))
    obtain ⟨_, ⟨_, z7⟩, _, y1, y2, y3, y4, y5⟩ := hs3
    refine ⟨h4, _, .val (.int (nI (9 + 63 * j))), .val (.int (nI (ypr t).length)), s6', ?_, ⟨by unfold zMo; rw [g2'.1 m (by omega) (by omega)]; exact c1m, ⟨N, zTab_cg hT3 (g2'.1 _ (by omega) (by omega)), hn⟩, ⟨⟨_, l54⟩, ⟨_, zLst_cg z7 (g2'.1 _ (by omega) (by omega)) (g2'.1 _ (by omega) (by omega))⟩, g1', zArr_cg y1 (g2'.1 _ (by omega) (by omega)), zArr_cg y2 (g2'.1 _ (by omega) (by omega)), zArr_cg y3 (g2'.1 _ (by omega) (by omega)), zArr_cg y4 (g2'.1 _ (by omega) (by omega)), zArr_cg y5 (g2'.1 _ (by omega) (by omega))⟩⟩, fun _ => ⟨v8, l54⟩, yff_tr (yff_up (j := 8) (by decide)) (yff_tr (yff_up (j := 8) (by decide)) (yff_up (by decide))), ⟨fun q q1 q2 q3 => by rw [g2'.1 q (by omega) (by omega), fr3 q q1 (by omega) (by omega) (by omega) (by omega)], by rw [g2'.2, c4, b2.2]; exact a4⟩⟩
    rw [if_pos hg, zc_243]
    have hr3 : ∀ X : zR, zrc (h3.1 m) 13 X = X := fun X => zMo_rc c1m
    have hr2 : ∀ X : zR, zrc (h2.1 m) 13 X = X := fun X => zMo_rc b1.1
    rw [nI_0] at e5
    simp (disch := first | exact znw_u | exact znw_i | omega) only [zs_243_0, zs_243_1, zs_243_2, zs_243_5, zs_243_8, zs_243_9, zs_243_10, zs_243_13, zs_243_16, zs_243_17, zs_243_18, zs_243_19, zs_243_22, zs_243_25, zs_243_26, zs_243_27, zs_243_28, zs_243_29, zs_243_32, zs_243_34, zs_243_36, zs_243_37, zs_243_38, zs_243_39, zs_243_41, zs_243_42, zs_243_45, zs_243_46, zs_243_47, zs_243_49, zs_243_50, zs_243_53, zs_243_54, zs_243_57, zs_243_59, zs_243_60, zs_243_61, zs_243_62, zs_243_63, zs_243_64, zs_243_66, zs_243_69, zs_243_70, zs_243_71, zs_243_72, zs_243_73, zs_243_76, zs_243_77, zs_243_81, zs_243_82, zs_243_85, zs_243_88, zs_243_89, zs_243_92, zs_243_94, zs_243_95, zs_243_97, zs_243_100, zs_243_101, zs_243_104, zs_243_106, zs_243_107, zs_243_108, zs_243_110, zs_243_111, zs_243_114, zs_243_115, zs_243_116, zs_243_119, zs_243_121, zs_243_122, zs_243_123, zs_243_126, zs_243_128, zs_243_129, zs_243_132, zs_243_135, zs_243_136, zs_243_138, zs_243_140, zs_243_141, zs_243_144, zs_243_146, zs_243_147, zs_243_150, zs_243_151, zs_243_152, zs_243_155, zs_243_157, zs_243_158, zs_243_159, zs_243_160, zs_243_162, zs_243_163, zs_243_164, zs_243_165, zs_243_166, zs_243_167, zs_243_170, zs_243_172, zs_243_173, zs_243_174, zs_243_175, zs_243_177, zs_243_178, zs_243_179, zs_243_180, zs_243_183, zs_243_186, zs_243_189, zs_243_192, zs_243_196, zs_243_199, zs_243_200, zs_243_206, zs_243_207, zs_243_208, zs_243_209, zs_243_210, zs_243_213, zs_243_214, zs_243_215, zs_243_218, zs_243_221, hmm, zmf_0, zmf_8, hN1, zrc_13v, E1, E1', E2, E3, hr1, E4, a1', hT1', yup_eq, nI_fb, e0, nI_m, nI_mulx, nI_add, if_neg g1, zmp_11, zbk_v, zts_s, zts_n, nI_1e0, ↓reduceIte]
    rw [e5]
    simp only [zs_243_195, zs_243_196, zs_243_199, zs_243_200, hr2, E6, hr3, E7, zbk_v, zts_s, zts_n]
  · refine ⟨h1, _, .unset, .unset, .unset, ?_, w1, fun q => absurd q hg, yff_up (by decide), ⟨fun q q1 q2 q3 => a3 q q1 (by omega) (by omega), a4⟩⟩
    have g1 : nI 31 < nI (ysz t + yct (c - nI 97) (ypr t) * su) := nI_lt (by omega) (by omega)
    rw [if_neg hg, zc_243]
    simp (disch := first | exact znw_u | exact znw_i | omega) only [zs_243_0, zs_243_1, zs_243_2, zs_243_5, zs_243_8, zs_243_9, zs_243_10, zs_243_13, zs_243_16, zs_243_17, zs_243_18, zs_243_19, zs_243_22, zs_243_25, zs_243_26, zs_243_27, zs_243_28, zs_243_29, zs_243_32, zs_243_34, zs_243_36, zs_243_37, zs_243_38, zs_243_39, zs_243_41, zs_243_42, zs_243_45, zs_243_46, zs_243_47, zs_243_49, zs_243_50, zs_243_53, zs_243_54, zs_243_57, zs_243_59, zs_243_60, zs_243_61, zs_243_62, zs_243_63, zs_243_64, zs_243_66, zs_243_69, zs_243_70, zs_243_71, zs_243_72, zs_243_73, zs_243_76, zs_243_77, zs_243_79, zs_243_81, zs_243_82, zs_243_85, zs_243_88, zs_243_89, zs_243_92, zs_243_94, zs_243_95, zs_243_97, zs_243_100, zs_243_101, zs_243_104, zs_243_106, zs_243_107, zs_243_108, zs_243_110, zs_243_111, zs_243_114, zs_243_115, zs_243_116, zs_243_119, zs_243_121, zs_243_122, zs_243_123, zs_243_126, zs_243_128, zs_243_129, zs_243_132, zs_243_135, zs_243_136, zs_243_138, zs_243_140, zs_243_141, zs_243_144, zs_243_146, zs_243_147, zs_243_150, zs_243_151, zs_243_152, zs_243_155, zs_243_157, zs_243_158, zs_243_159, zs_243_160, zs_243_162, zs_243_163, zs_243_164, zs_243_165, zs_243_166, zs_243_167, zs_243_170, zs_243_172, zs_243_173, zs_243_174, zs_243_175, zs_243_177, zs_243_178, zs_243_179, zs_243_180, zs_243_183, zs_243_186, zs_243_189, zs_243_192, zs_243_195, zs_243_196, zs_243_199, zs_243_200, zs_243_203, zs_243_206, zs_243_207, zs_243_208, zs_243_209, zs_243_210, zs_243_213, zs_243_214, zs_243_215, zs_243_218, zs_243_221, hmm, zmf_0, zmf_8, hN1, zrc_13v, E1, E1', E2, E3, hr1, E4, a1', hT1', yup_eq, nI_fb, e0, nI_m, nI_mulx, nI_add, if_pos g1, zbk_v, zts_s, zts_n, nI_1e0, ↓reduceIte]
end ZMH

section ZMI
variable {sv : Nat → Value} {d : Nat} {h : zH} {m : Nat} {F : Nat → Int32} {A : yA} {N : List Int32}
theorem e_243b {i j : Nat} {c : Int32} {t u : yT} (hw : zWk h m F A) (hA : yAok A) (hi : A.1[i]? = some t) (hj : A.1[j]? = some u) (hc : ylet c = true) (hb : ¬ (ysz (yins c u t) ≤ 31 ∧ ydp (yins c u t) ≤ 8)) : ∃ (h' : zH) (F' : Nat → Int32), zcall zP sv (d + 21) 243 [.ref m, .int (nI i), .int c, .int (nI j)] h = some (.inl (some (.int (nI 3))), h') ∧ zWk h' m F' A ∧ yff F F' ∧ zwf m h h' := by
  obtain ⟨h1, F1, s4, s5, s6, e, w1, _, f1, k1⟩ := e_243m (sv := sv) (d := d) hw hA hi hj hc
  refine ⟨h1, F1, ?_, w1, f1, k1⟩
  rw [e]
  split
  · have hb2 : (decide (ysz (yins c u t) ≤ 31) && decide (ydp (yins c u t) ≤ 8)) = false := by
      rw [← Bool.decide_and]
      exact decide_eq_false hb
    rw [hb2, yb_f]
    simp only [zs_243_203, zs_243_206, zs_243_207, ↓reduceIte]
  · rfl
theorem e_243c {i j : Nat} {c : Int32} {t u : yT} (hw : zWk h m F A) (hA : yAok A) (hi : A.1[i]? = some t) (hj : A.1[j]? = some u) (hc : ylet c = true) (hb : ysz (yins c u t) ≤ 31 ∧ ydp (yins c u t) ≤ 8) : ∃ (h' : zH) (F' : Nat → Int32), zcall zP sv (d + 21) 243 [.ref m, .int (nI i), .int c, .int (nI j)] h = some (.inl (some (.int 0)), h') ∧ zWk h' m F' (A.1.set i (yins c u t), A.2) ∧ F' 30 = nI (ysz (yins c u t)) ∧ yff F F' ∧ zwf m h h' := by
  obtain ⟨h1, F1, s4, s5, s6, e, ⟨a1, ⟨N, hN, hn⟩, hs⟩, b1, f1, k1⟩ := e_243m (sv := sv) (d := d) hw hA hi hj hc
  have hA1 := hA.1
  have hil := (List.getElem?_eq_some_iff.mp hi).1
  have i6 : i < 6 := by omega
  obtain ⟨b8, bl⟩ := b1 hb.1
  obtain ⟨t1, _⟩ := hA.2.1 t (List.mem_of_getElem? hi)
  obtain ⟨u1, _⟩ := hA.2.1 u (List.mem_of_getElem? hj)
  have ti := ytw_yins (c := c) u1 t t1
  have hki := ynk_ypr (yins c u t) (Or.inr ti)
  have hli := ypr_len (yins c u t)
  rw [e, if_pos hb.1]
  have hb2 : (decide (ysz (yins c u t) ≤ 31) && decide (ydp (yins c u t) ≤ 8)) = true := by
    rw [← Bool.decide_and]
    exact decide_eq_true hb
  rw [hb2, yb_t]
  have a1m := a1
  unfold zMo at a1m
  obtain ⟨h2, N', e5, d1, d2, d3, d4, d5⟩ := e_208 (sv := sv) (d := d + 19) (p := ypr (yins c u t)) i6 a1 (by rw [hli, b8]) (by omega) hki bl hN
  have E5 : zcall zP sv (d + 20) 208 [.ref m, .int (nI i)] h1 = some (.inl none, h2) := e5
  have m2 : h2.1 m = (13, zMF m F1) := by rw [d4 m (by omega), a1m]
  have E6 : zcall zP sv (d + 20) 201 [.ref m, .int (nI (ysz (yins c u t)))] h2 = _ := e_201 (sv := sv) (d := d + 19) (x := nI (ysz (yins c u t))) (h := h2) (m := m) (F := F1) m2
  refine ⟨zup h2 m (13, zMF m (yup F1 30 (nI (ysz (yins c u t))))), _, ?_, ⟨zMo_up, ⟨N', zTab_cg d1 (zup_ne (by omega)), yNow_set hn d1.2 d2 d3 hA.2.2⟩, ?_⟩, yup_eq, yff_tr f1 (yff_up (by decide)), zwf_tr k1 ⟨fun q q1 q2 q3 => by rw [zup_ne q1, d4 _ q2], d5⟩⟩
  · simp only [zs_243_203, zs_243_208, zs_243_209, zs_243_210, zs_243_213, zs_243_214, zs_243_215, zs_243_218, zs_243_221, a1m, m2, zmf_8, b8, zrc_13v, E5, E6, zbk_v, zts_s, zts_n, nI_1e0, ↓reduceIte]
  · obtain ⟨⟨_, z1⟩, ⟨_, z2⟩, _⟩ := id hs
    exact zScm_of hs (zLst_cg z1 (by rw [zup_ne (by omega), d4 _ (by omega)]) (by rw [zup_ne (by omega), d4 _ (by omega)])) (zLst_cg z2 (by rw [zup_ne (by omega), d4 _ (by omega)]) (by rw [zup_ne (by omega), d4 _ (by omega)])) (fun a ha => by rw [zup_ne (by omega), d4 _ (by omega)])
/-- values, registering -/
theorem ylet_of {c : Int32} (h : ylet c = true) : ∃ v, v < 6 ∧ c = nI (97 + v) := by
  unfold ylet at h
  rw [Bool.and_eq_true] at h
  have h1 := of_decide_eq_true h.1
  have h2 := of_decide_eq_true h.2
  have h0 : ¬ c < 0 := fun q => h1 (Int32.lt_trans q (by decide +kernel))
  obtain ⟨k, hk, rfl⟩ := nI_of h0
  have h3 : ¬ k < 97 := fun q => h1 (nI_lt q (by decide))
  have h4 : ¬ 102 < k := fun q => h2 (nI_lt q hk)
  exact ⟨k - 97, by omega, by rw [show 97 + (k - 97) = k by omega]⟩
end ZMI

section ZMJ
variable {sv : Nat → Value} {d : Nat} {h : zH} {m : Nat} {F : Nat → Int32} {A : yA} {N : List Int32}
theorem yg_nn {A : List Int32} {v : Nat} (hv : v < 2 ^ 31) : yg A (nI v) = A.getD v 0 := by
  unfold yg
  rw [if_neg (nI_pos hv), nI_clamp hv]
theorem ys_nn {A : List Int32} {v : Nat} {x : Int32} (hv : v < 2 ^ 31) : ys A (nI v) x = A.set v x := by
  unfold ys
  rw [if_neg (nI_pos hv), nI_clamp hv]
theorem nI_97 {v : Nat} : nI (97 + v) - nI 97 = nI v := nI_sub'
theorem nI_397 {v : Nat} : nI 3 + nI (97 + v) - nI 97 = nI (3 + v) := by rw [nI_add, show 3 + (97 + v) = 97 + (3 + v) by omega, nI_sub']
theorem e_245x {c x : Int32} (hm : zMo h m F) (hb : (ylet c && (decide (¬ x < -999) && decide (¬ nI 999 < x))) = false) : zcall zP sv (d + 20) 245 [.ref m, .int c, .int x] h = some (.inl (some (.int (nI 1))), h) := by
  have E2 : zcall zP sv (d + 19) 204 [.int c] h = _ := e_204 (sv := sv) (d := d + 17) (c := c)
  have E3 : zcall zP sv (d + 19) 199 [.int x, .int (-999), .int (nI 999)] h = _ := e_199 (sv := sv) (d := d + 18) (x := x) (a := -999) (b := nI 999)
  cases hc : ylet c with
  | false =>
    rw [hc, yb_f] at E2
    simp only [zc_245, zs_245_0, zs_245_1, zs_245_4, zs_245_7, zs_245_8, zs_245_11, zs_245_14, zs_245_17, zs_245_20, zs_245_21, zs_245_22, zs_245_23, zs_245_26, zs_245_27, zs_245_28, zs_245_29, zs_245_31, zs_245_32, zs_245_33, zs_245_34, zs_245_35, zs_245_38, zs_245_39, zs_245_40, zs_245_41, zs_245_43, zs_245_44, zs_245_45, zs_245_46, zs_245_47, zs_245_48, zs_245_51, E2, zbk_v, zts_s, ↓reduceIte]
  | true =>
    rw [hc, Bool.true_and] at hb
    rw [hc, yb_t] at E2
    rw [hb, yb_f] at E3
    simp only [zc_245, zs_245_0, zs_245_1, zs_245_4, zs_245_7, zs_245_8, zs_245_11, zs_245_14, zs_245_17, zs_245_20, zs_245_21, zs_245_22, zs_245_23, zs_245_26, zs_245_27, zs_245_28, zs_245_29, zs_245_31, zs_245_32, zs_245_33, zs_245_34, zs_245_35, zs_245_38, zs_245_39, zs_245_40, zs_245_41, zs_245_43, zs_245_44, zs_245_45, zs_245_46, zs_245_47, zs_245_48, zs_245_51, E2, E3, zbk_v, zts_s, nI_1e0, ↓reduceIte]
theorem e_245 {c x : Int32} (hw : zWk h m F A) (hA : yAok A) (hb : (ylet c && (decide (¬ x < -999) && decide (¬ nI 999 < x))) = true) : ∃ (h' : zH) (F' : Nat → Int32), zcall zP sv (d + 20) 245 [.ref m, .int c, .int x] h = some (.inl (some (.int 0)), h') ∧ zWk h' m F' (A.1, ys A.2.1 (c - nI 97) x, A.2.2) ∧ F' 30 = yg A.2.1 (c - nI 97) ∧ yff F F' ∧ zwf m h h' := by
  rw [Bool.and_eq_true] at hb
  obtain ⟨v, hv, rfl⟩ := ylet_of hb.1
  obtain ⟨hm, ⟨N, hN, hn⟩, hs⟩ := hw
  have hmm := hm
  unfold zMo at hmm
  have hN1 := hN.1
  have hN2 := hN.2
  have hA6 := hA.2.2
  have E2 : zcall zP sv (d + 19) 204 [.int (nI (97 + v))] h = _ := e_204 (sv := sv) (d := d + 17) (c := nI (97 + v))
  have E3 : zcall zP sv (d + 19) 199 [.int x, .int (-999), .int (nI 999)] h = _ := e_199 (sv := sv) (d := d + 18) (x := x) (a := -999) (b := nI 999)
  rw [hb.1, yb_t] at E2
  rw [hb.2, yb_t] at E3
  have hx : A.2.1[v]? = some (A.2.1.getD v 0) := by
    rw [List.getD_eq_getElem?_getD, List.getElem?_eq_getElem (by omega)]
    rfl
  have e0 : ∀ Kv, zael (20, N.map Value.int) 20 (nI (3 + v)) Kv = Kv (.int (A.2.1.getD v 0)) := fun Kv => zaelv (by rw [List.getElem?_map, hn.2.2.2.2.1 v _ hx]; rfl) (by omega)
  have s0 : ∀ Kc : zC → zR, zaset (20, N.map Value.int) 20 (nI (3 + v)) (.int x) Kc = Kc (20, (N.set (3 + v) x).map Value.int) := fun Kc => zsI (by omega) (by omega)
  have w2 : (zup h (m + 1) (20, (N.set (3 + v) x).map Value.int)).1 m = (13, zMF m F) := by rw [zup_ne (by omega), hmm]
  have E6 : zcall zP sv (d + 19) 201 [.ref m, .int (A.2.1.getD v 0)] (zup h (m + 1) (20, (N.set (3 + v) x).map Value.int)) = _ := e_201 (sv := sv) (d := d + 18) (x := A.2.1.getD v 0) (h := zup h (m + 1) (20, (N.set (3 + v) x).map Value.int)) (m := m) (F := F) w2
  rw [nI_97, yg_nn (by omega), ys_nn (by omega)]
  refine ⟨zup (zup h (m + 1) (20, (N.set (3 + v) x).map Value.int)) m (13, zMF m (yup F 30 (A.2.1.getD v 0))), _, ?_, ⟨zMo_up, ⟨N.set (3 + v) x, ⟨by rw [zup_ne (by omega), zup_at], by rw [List.length_set, hN2]⟩, yNow_var hn hA6 hv⟩, ?_⟩, yup_eq, yff_up (by decide), ⟨fun q q1 q2 q3 => by rw [zup_ne q1, zup_ne q2], rfl⟩⟩
  · simp (disch := first | exact znw_u | exact znw_i | omega) only [zc_245, zs_245_0, zs_245_1, zs_245_4, zs_245_7, zs_245_8, zs_245_11, zs_245_14, zs_245_17, zs_245_20, zs_245_21, zs_245_22, zs_245_23, zs_245_26, zs_245_27, zs_245_28, zs_245_29, zs_245_31, zs_245_32, zs_245_33, zs_245_34, zs_245_35, zs_245_38, zs_245_39, zs_245_40, zs_245_41, zs_245_43, zs_245_44, zs_245_45, zs_245_46, zs_245_47, zs_245_48, zs_245_51, E2, E3, hmm, zmf_0, hN1, nI_397, e0, s0, w2, zrc_13v, E6, zbk_v, zts_s, nI_1e0, ↓reduceIte]
  · obtain ⟨⟨_, z1⟩, ⟨_, z2⟩, _⟩ := id hs
    exact zScm_of hs (zLst_cg z1 (by rw [zup_ne (by omega), zup_ne (by omega)]) (by rw [zup_ne (by omega), zup_ne (by omega)])) (zLst_cg z2 (by rw [zup_ne (by omega), zup_ne (by omega)]) (by rw [zup_ne (by omega), zup_ne (by omega)])) (fun a ha => by rw [zup_ne (by omega), zup_ne (by omega)])
theorem e_247x {x : Int32} (hm : zMo h m F) (hb : (decide (¬ x < nI 1) && decide (¬ nI 4 < x)) = false) : zcall zP sv (d + 20) 247 [.ref m, .int x] h = some (.inl (some (.int (nI 1))), h) := by
  have E3 : zcall zP sv (d + 19) 199 [.int x, .int (nI 1), .int (nI 4)] h = _ := e_199 (sv := sv) (d := d + 18) (x := x) (a := nI 1) (b := nI 4)
  rw [hb, yb_f] at E3
  simp only [zc_247, zs_247_0, zs_247_1, zs_247_2, zs_247_3, zs_247_6, zs_247_9, zs_247_10, zs_247_11, zs_247_12, zs_247_15, zs_247_16, zs_247_17, zs_247_18, zs_247_19, zs_247_22, zs_247_23, zs_247_24, zs_247_25, zs_247_26, zs_247_27, zs_247_30, E3, zbk_v, zts_s, nI_1e0, ↓reduceIte]
theorem e_247 {x : Int32} (hw : zWk h m F A) (hb : (decide (¬ x < nI 1) && decide (¬ nI 4 < x)) = true) : ∃ (h' : zH) (F' : Nat → Int32), zcall zP sv (d + 20) 247 [.ref m, .int x] h = some (.inl (some (.int 0)), h') ∧ zWk h' m F' (A.1, A.2.1, x, A.2.2.2) ∧ F' 30 = A.2.2.1 ∧ yff F F' ∧ zwf m h h' := by
  obtain ⟨hm, ⟨N, hN, hn⟩, hs⟩ := hw
  have hmm := hm
  unfold zMo at hmm
  have hN1 := hN.1
  have hN2 := hN.2
  have E3 : zcall zP sv (d + 19) 199 [.int x, .int (nI 1), .int (nI 4)] h = _ := e_199 (sv := sv) (d := d + 18) (x := x) (a := nI 1) (b := nI 4)
  rw [hb, yb_t] at E3
  have e0 : ∀ Kv, zael (20, N.map Value.int) 20 (nI 1) Kv = Kv (.int A.2.2.1) := fun Kv => zaelv (by rw [List.getElem?_map, hn.2.2.1]; rfl) (by decide)
  have s0 : ∀ Kc : zC → zR, zaset (20, N.map Value.int) 20 (nI 1) (.int x) Kc = Kc (20, (N.set 1 x).map Value.int) := fun Kc => zsI (by omega) (by omega)
  have w2 : (zup h (m + 1) (20, (N.set 1 x).map Value.int)).1 m = (13, zMF m F) := by rw [zup_ne (by omega), hmm]
  have E6 : zcall zP sv (d + 19) 201 [.ref m, .int A.2.2.1] (zup h (m + 1) (20, (N.set 1 x).map Value.int)) = _ := e_201 (sv := sv) (d := d + 18) (x := A.2.2.1) (h := zup h (m + 1) (20, (N.set 1 x).map Value.int)) (m := m) (F := F) w2
  refine ⟨zup (zup h (m + 1) (20, (N.set 1 x).map Value.int)) m (13, zMF m (yup F 30 A.2.2.1)), _, ?_, ⟨zMo_up, ⟨N.set 1 x, ⟨by rw [zup_ne (by omega), zup_at], by rw [List.length_set, hN2]⟩, yNow_reg hn⟩, ?_⟩, yup_eq, yff_up (by decide), ⟨fun q q1 q2 q3 => by rw [zup_ne q1, zup_ne q2], rfl⟩⟩
  · simp (disch := first | exact znw_u | exact znw_i | omega) only [zc_247, zs_247_0, zs_247_1, zs_247_2, zs_247_3, zs_247_6, zs_247_9, zs_247_10, zs_247_11, zs_247_12, zs_247_15, zs_247_16, zs_247_17, zs_247_18, zs_247_19, zs_247_22, zs_247_23, zs_247_24, zs_247_25, zs_247_26, zs_247_27, zs_247_30, E3, hmm, zmf_0, hN1, e0, s0, w2, zrc_13v, E6, zbk_v, zts_s, nI_1e0, ↓reduceIte]
  · obtain ⟨⟨_, z1⟩, ⟨_, z2⟩, _⟩ := id hs
    exact zScm_of hs (zLst_cg z1 (by rw [zup_ne (by omega), zup_ne (by omega)]) (by rw [zup_ne (by omega), zup_ne (by omega)])) (zLst_cg z2 (by rw [zup_ne (by omega), zup_ne (by omega)]) (by rw [zup_ne (by omega), zup_ne (by omega)])) (fun a ha => by rw [zup_ne (by omega), zup_ne (by omega)])
end ZMJ

/-- the kept tables: newest first -/
def zKep (h : zH) (a : Nat) (H : List yA) : Prop := ∃ K : List Int32, h.1 a = (20, K.map Value.int) ∧ K.length = 3096 ∧ ∀ (j : Nat) (A : yA), H[j]? = some A → ∃ N : List Int32, yNow N A ∧ ∀ i, i < 387 → K[387 * (H.length - 1 - j) + i]? = N[i]?
theorem zKep_cg {h h' : zH} {a : Nat} {H : List yA} (hk : zKep h a H) (h1 : h'.1 a = h.1 a) : zKep h' a H := by
  obtain ⟨K, k1, k2⟩ := hk
  exact ⟨K, h1.trans k1, k2⟩
section ZMK
variable {sv : Nat → Value} {d : Nat} {m : Nat} {F : Nat → Int32}
theorem e_200 {h : zH} {N T : List Int32} (hm : zMo h m F) (hN : zTab h (m + 1) N) (hT : zTab h (m + 2) T) : zcall zP sv (d + 1) 200 [.ref m] h = some (.inl none, zup (zup h m (13, zMF m (yup F 31 0))) (m + 2) (20, N.map Value.int)) :=
  c_200x (sv := sv) (d := d) (r := m) (p := m + 1) (q := m + 2) hm hN.1 hT.1 (by omega) (by omega) (by omega) (by rw [List.length_map, hN.2]) (by rw [List.length_map, hT.2]) (fun i hi => ⟨N[i]'(by rw [hN.2]; exact hi), by rw [List.getElem?_map, List.getElem?_eq_getElem (by rw [hN.2]; exact hi)]; rfl⟩)
theorem e_202c {u : Nat} {l1 : Slot} {T K0 : List Int32} (hu : u < 8) (h3 : F 3 = nI u) (hTl : T.length = 387) (hK0 : K0.length = 3096) : ∀ n k (h : zH) (K : List Int32), k + n = 387 → h.1 m = (13, zMF m F) → h.1 (m + 2) = (20, T.map Value.int) → h.1 (m + 3) = (20, K.map Value.int) → K.length = 3096 → (∀ i, i < k → K[387 * u + i]? = T[i]?) → (∀ i, i < 387 * u ∨ 387 * u + 387 ≤ i → K[i]? = K0[i]?) → ∃ (h' : zH) (K' : List Int32), zrun zP sv (zcall zP sv d) 202 62 [.val (.ref m), l1, .val (.int (nI k))] [] h = some (.inl (some (.int (F 30))), h') ∧ h'.1 m = (13, zMF m (yup F 3 (nI (u + 1)))) ∧ h'.1 (m + 3) = (20, K'.map Value.int) ∧ K'.length = 3096 ∧ (∀ i, i < 387 → K'[387 * u + i]? = T[i]?) ∧ (∀ i, i < 387 * u ∨ 387 * u + 387 ≤ i → K'[i]? = K0[i]?) ∧ (∀ q, q ≠ m → q ≠ m + 3 → h'.1 q = h.1 q) ∧ h'.2 = h.2 := by
  intro n
  induction n with
  | zero =>
    intro k h K hk hm hT hK hKl g1 g2
    obtain rfl : k = 387 := by omega
    refine ⟨zup h m (13, zMF m (yup F 3 (nI (u + 1)))), K, ?_, zup_at, by rw [zup_ne (by omega), hK], hKl, g1, g2, fun q q1 q2 => zup_ne q1, rfl⟩
    have v30 : yup F 3 (nI (u + 1)) 30 = F 30 := yup_ne (by omega)
    have z30 : ∀ G : Nat → Int32, ∀ Kv, zfld (13, zMF m G) 13 30 Kv = Kv (.int (G 30)) := fun G Kv => zf_13_30
    simp only [zs_202_0, zs_202_1, zs_202_4, zs_202_5, zs_202_6, zs_202_9, zs_202_10, zs_202_11, zs_202_14, zs_202_16, zs_202_19, zs_202_20, zs_202_21, zs_202_22, zs_202_25, zs_202_28, zs_202_29, zs_202_32, zs_202_33, zs_202_34, zs_202_37, zs_202_40, zs_202_41, zs_202_42, zs_202_43, zs_202_44, zs_202_47, zs_202_50, zs_202_51, zs_202_52, zs_202_55, zs_202_56, zs_202_57, zs_202_60, zs_202_61, zs_202_62, zs_202_63, zs_202_66, zs_202_69, zs_202_70, zs_202_73, zs_202_76, zs_202_77, zs_202_80, zs_202_81, zs_202_82, zs_202_83, zs_202_84, zs_202_87, zs_202_88, zs_202_89, zs_202_90, zs_202_93, zs_202_96, zs_202_97, zs_202_98, zs_202_101, zs_202_102, zs_202_103, zs_202_106, zs_202_107, zs_202_110, hm, zmf_3, h3, Int32.lt_irrefl, ↓reduceIte, nI_add, zmp_3, zup_at, z30, v30]
  | succ n ih =>
    intro k h K hk hm hT hK hKl g1 g2
    obtain ⟨y, hy⟩ : ∃ y, T[k]? = some y := ⟨_, List.getElem?_eq_getElem (by omega)⟩
    have ey : ∀ Kv, zael (20, T.map Value.int) 20 (nI k) Kv = Kv (.int y) := fun Kv => zaelv (by rw [List.getElem?_map, hy]; rfl) (by omega)
    have s1 : ∀ Kc : zC → zR, zaset (20, K.map Value.int) 20 (nI (387 * u + k)) (.int y) Kc = Kc (20, (K.set (387 * u + k) y).map Value.int) := fun Kc => zsI (by omega) (by omega)
    have c1 : nI k < nI 387 := nI_lt (by omega) (by omega)
    obtain ⟨h', K', e, q1, q2, q3, q4, q5, q6, q7⟩ := ih (k + 1) (zup h (m + 3) (20, (K.set (387 * u + k) y).map Value.int)) (K.set (387 * u + k) y) (by omega) (by rw [zup_ne (by omega), hm]) (by rw [zup_ne (by omega), hT]) zup_at (by rw [List.length_set, hKl]) (fun i hi => by
      by_cases hik : i = k
      · subst hik
        rw [List.getElem?_set_self (by omega), hy]
      · rw [List.getElem?_set_ne (by omega), g1 i (by omega)]) (fun i hi => by rw [List.getElem?_set_ne (by omega), g2 i hi])
    refine ⟨h', K', ?_, q1, q2, q3, q4, q5, fun q p1 p2 => by rw [q6 q p1 p2, zup_ne p2], q7⟩
    simp only [zs_202_0, zs_202_1, zs_202_4, zs_202_5, zs_202_6, zs_202_9, zs_202_10, zs_202_11, zs_202_14, zs_202_16, zs_202_19, zs_202_20, zs_202_21, zs_202_22, zs_202_25, zs_202_28, zs_202_29, zs_202_32, zs_202_33, zs_202_34, zs_202_37, zs_202_40, zs_202_41, zs_202_42, zs_202_43, zs_202_44, zs_202_47, zs_202_50, zs_202_51, zs_202_52, zs_202_55, zs_202_56, zs_202_57, zs_202_60, zs_202_61, zs_202_63, zs_202_66, zs_202_69, zs_202_70, zs_202_73, zs_202_76, zs_202_77, zs_202_80, zs_202_81, zs_202_82, zs_202_83, zs_202_84, zs_202_87, zs_202_88, zs_202_89, zs_202_96, zs_202_97, zs_202_98, zs_202_101, zs_202_102, zs_202_103, zs_202_106, zs_202_107, zs_202_110, zs_202_62, hm, zmf_1, zmf_2, zmf_3, h3, hT, hK, if_pos c1, nI_mulx, nI_add, ey, s1]
    rw [zs_202_90, zs_202_93, nI_1']
    exact e
theorem e_202s {l1 : Slot} {K0 : List Int32} {C : Nat → List Value → zH → zR} (hK0 : K0.length = 3096) : ∀ n k (h : zH) (K : List Int32), k + n = 2709 → h.1 m = (13, zMF m F) → h.1 (m + 3) = (20, K.map Value.int) → K.length = 3096 → (∀ i, i < k → K[i]? = K0[387 + i]?) → (∀ i, k ≤ i → K[i]? = K0[i]?) → ∃ (h' : zH) (K' : List Int32), zrun zP sv C 202 21 [.val (.ref m), l1, .val (.int (nI k))] [] h = zrun zP sv C 202 50 [.val (.ref m), l1, .val (.int (nI 2709))] [] h' ∧ h'.1 (m + 3) = (20, K'.map Value.int) ∧ K'.length = 3096 ∧ (∀ i, i < 2709 → K'[i]? = K0[387 + i]?) ∧ (∀ q, q ≠ m + 3 → h'.1 q = h.1 q) ∧ h'.2 = h.2 := by
  intro n
  induction n with
  | zero =>
    intro k h K hk hm hK hKl g1 g2
    obtain rfl : k = 2709 := by omega
    refine ⟨h, K, ?_, hK, hKl, g1, fun _ _ => rfl, rfl⟩
    simp only [zs_202_21, zs_202_22, zs_202_25, Int32.lt_irrefl, ↓reduceIte]
  | succ n ih =>
    intro k h K hk hm hK hKl g1 g2
    obtain ⟨y, hy⟩ : ∃ y, K0[387 + k]? = some y := ⟨_, List.getElem?_eq_getElem (by omega)⟩
    have ey : ∀ Kv, zael (20, K.map Value.int) 20 (nI (387 + k)) Kv = Kv (.int y) := fun Kv => zaelv (by rw [List.getElem?_map, g2 _ (by omega), hy]; rfl) (by omega)
    have s1 : ∀ Kc : zC → zR, zaset (20, K.map Value.int) 20 (nI k) (.int y) Kc = Kc (20, (K.set k y).map Value.int) := fun Kc => zsI (by omega) (by omega)
    have c1 : nI k < nI 2709 := nI_lt (by omega) (by omega)
    obtain ⟨h', K', e, q2, q3, q4, q6, q7⟩ := ih (k + 1) (zup h (m + 3) (20, (K.set k y).map Value.int)) (K.set k y) (by omega) (by rw [zup_ne (by omega), hm]) zup_at (by rw [List.length_set, hKl]) (fun i hi => by
      by_cases hik : i = k
      · subst hik
        rw [List.getElem?_set_self (by omega), hy]
      · rw [List.getElem?_set_ne (by omega), g1 i (by omega)]) (fun i hi => by rw [List.getElem?_set_ne (by omega), g2 i (by omega)])
    refine ⟨h', K', ?_, q2, q3, q4, fun q p2 => by rw [q6 q p2, zup_ne p2], q7⟩
    rw [← e]
    have e2 : zrun zP sv C 202 44 [.val (.ref m), l1, .val (.int (nI k))] [] (zup h (m + 3) (20, (K.set k y).map Value.int)) = zrun zP sv C 202 21 [.val (.ref m), l1, .val (.int (nI (k + 1)))] [] (zup h (m + 3) (20, (K.set k y).map Value.int)) := by rw [zs_202_44, zs_202_47, nI_1']
    rw [← e2]
    simp only [zs_202_21, zs_202_22, zs_202_25, zs_202_28, zs_202_29, zs_202_32, zs_202_33, zs_202_34, zs_202_37, zs_202_40, zs_202_41, zs_202_42, zs_202_43, hm, zmf_2, hK, if_pos c1, nI_add, ey, s1]
theorem e_202 {h : zH} {T : List Int32} {A0 : yA} {H : List yA} (hm : zMo h m F) (h3 : F 3 = nI H.length) (hH : H.length ≤ 8) (hT : zTab h (m + 2) T) (hn : yNow T A0) (hk : zKep h (m + 3) H) : ∃ h', zcall zP sv (d + 1) 202 [.ref m, .int 0] h = some (.inl (some (.int (F 30))), h') ∧ zMo h' m (yup F 3 (nI ((A0 :: H).take 8).length)) ∧ zKep h' (m + 3) ((A0 :: H).take 8) ∧ (∀ q, q ≠ m → q ≠ m + 3 → h'.1 q = h.1 q) ∧ h'.2 = h.2 := by
  obtain ⟨K, k1, k2, k3⟩ := hk
  unfold zMo at hm
  have h00 : ¬ ((0 : Int32) < 0) := by decide +kernel
  by_cases hu : H.length < 8
  · have g8 : ¬ nI H.length = nI 8 := fun q => absurd ((nI_eq (by omega) (by omega)).mp q) (by omega)
    have htk : (A0 :: H).take 8 = A0 :: H := List.take_of_length_le (by rw [List.length_cons]; omega)
    obtain ⟨h', K', e, q1, q2, q3, q4, q5, q6, q7⟩ := e_202c (sv := sv) (d := d) (m := m) (F := F) (l1 := .val (.int 0)) (T := T) (K0 := K) hu h3 hT.2 k2 387 0 h K (Nat.zero_add _) hm hT.1 k1 k2 (fun i hi => absurd hi (Nat.not_lt_zero i)) (fun _ _ => rfl)
    rw [nI_0] at e
    refine ⟨h', ?_, ?_, ?_, q6, q7⟩
    · rw [zc_202]
      simp (disch := exact znw_u) only [zs_202_0, zs_202_1, zs_202_10, zs_202_11, zs_202_14, zs_202_16, zs_202_60, zs_202_61, if_neg h00, hm, zmf_3, h3, if_neg g8]
      exact e
    · rw [htk]
      exact q1
    · rw [htk]
      refine ⟨K', q2, q3, fun j A hA => ?_⟩
      cases j with
      | zero =>
        obtain rfl := Option.some.inj hA
        exact ⟨T, hn, fun i hi => by
          rw [← q4 i hi]
          rfl⟩
      | succ j =>
        have hA2 : H[j]? = some A := hA
        have hj := (List.getElem?_eq_some_iff.mp hA2).1
        obtain ⟨N, n1, n2⟩ := k3 j A hA2
        refine ⟨N, n1, fun i hi => ?_⟩
        rw [← n2 i hi, List.length_cons, show H.length + 1 - 1 - (j + 1) = H.length - 1 - j by omega, q5 _ (by omega)]
  · have h8 : H.length = 8 := by omega
    have htl : ((A0 :: H).take 8).length = 8 := by rw [List.length_take, List.length_cons]; omega
    obtain ⟨h1, K1, e1, p1, p2, p3, p4, p5⟩ := e_202s (sv := sv) (m := m) (F := F) (l1 := .val (.int 0)) (C := zcall zP sv d) (K0 := K) k2 2709 0 h K (Nat.zero_add _) hm k1 k2 (fun i hi => absurd hi (Nat.not_lt_zero i)) (fun _ _ => rfl)
    rw [nI_0] at e1
    have hm1 : h1.1 m = (13, zMF m F) := by rw [p4 m (by omega), hm]
    obtain ⟨h', K', e, q1, q2, q3, q4, q5, q6, q7⟩ := e_202c (sv := sv) (d := d) (m := m) (F := yup F 3 (nI 7)) (u := 7) (l1 := .val (.int 0)) (T := T) (K0 := K1) (by omega) yup_eq hT.2 p2 387 0 (zup h1 m (13, zMF m (yup F 3 (nI 7)))) K1 (Nat.zero_add _) zup_at (by rw [zup_ne (by omega), p4 _ (by omega)]; exact hT.1) (by rw [zup_ne (by omega), p1]) p2 (fun i hi => absurd hi (Nat.not_lt_zero i)) (fun _ _ => rfl)
    rw [nI_0] at e
    have v30 : yup F 3 (nI 7) 30 = F 30 := yup_ne (by omega)
    rw [v30] at e
    refine ⟨h', ?_, ?_, ?_, fun q n1 n2 => by rw [q6 q n1 n2, zup_ne n1, p4 q n2], by rw [q7]; exact p5⟩
    · rw [zc_202]
      have e0 : nI H.length = nI 8 := by rw [h8]
      have e87 : nI 8 - nI 1 = nI 7 := nI_m
      simp (disch := exact znw_u) only [zs_202_0, zs_202_1, zs_202_10, zs_202_11, zs_202_14, zs_202_16, zs_202_19, zs_202_20, if_neg h00, hm, zmf_3, h3, if_pos e0]
      rw [e1]
      simp (disch := exact znw_i) only [zs_202_50, zs_202_51, zs_202_52, zs_202_55, zs_202_56, zs_202_57, zs_202_60, zs_202_61, hm1, zmf_3, h3, h8, e87, zmp_3]
      exact e
    · rw [htl]
      rw [yup_yup] at q1
      exact q1
    · refine ⟨K', q2, q3, fun j A hA => ?_⟩
      rw [htl]
      rw [List.getElem?_take] at hA
      by_cases hj8 : j < 8
      · rw [if_pos hj8] at hA
        cases j with
        | zero =>
          obtain rfl := Option.some.inj hA
          exact ⟨T, hn, fun i hi => by
            rw [← q4 i hi]⟩
        | succ j =>
          have hA2 : H[j]? = some A := hA
          obtain ⟨N, n1, n2⟩ := k3 j A hA2
          refine ⟨N, n1, fun i hi => ?_⟩
          rw [← n2 i hi, h8, q5 _ (by omega), p3 _ (by omega), show 387 + (387 * (8 - 1 - (j + 1)) + i) = 387 * (8 - 1 - j) + i by omega]
      · rw [if_neg hj8] at hA
        cases hA
end ZMK
