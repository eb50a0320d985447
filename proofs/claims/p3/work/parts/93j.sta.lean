/-- the model's table stands for A -/
def yNow (N : List Int32) (A : yA) : Prop := N.length = 387 ∧ N[0]? = some (nI A.1.length) ∧ N[1]? = some A.2.2.1 ∧ N[2]? = some A.2.2.2 ∧ (∀ (v : Nat) (x : Int32), A.2.1[v]? = some x → N[3 + v]? = some x) ∧ ∀ (i : Nat) (t : yT), A.1[i]? = some t → ybk N (9 + 63 * i) (ypr t)
theorem ybk_of {N N' : List Int32} {b : Nat} {p : yP} (hb : ybk N b p) (hw : ∀ i, b ≤ i → i < b + 63 → N'[i]? = N[i]?) : ybk N' b p := by
  obtain ⟨c1, c2, c3, c4, c5⟩ := hb
  refine ⟨by rw [hw b (by omega) (by omega), c1], fun k x hx => ?_, c3, c4, c5⟩
  have hk := (List.getElem?_eq_some_iff.mp hx).1
  obtain ⟨z1, z2⟩ := c2 k x hx
  exact ⟨by rw [hw _ (by omega) (by omega), z1], by rw [hw _ (by omega) (by omega), z2]⟩
theorem yNow_set {N N' : List Int32} {A : yA} {i : Nat} {t : yT} (hn : yNow N A) (hl : N'.length = 387) (hw : yaw N N' (9 + 63 * i)) (hb : ybk N' (9 + 63 * i) (ypr t)) (hA : A.2.1.length = 6) : yNow N' (A.1.set i t, A.2) := by
  obtain ⟨c1, c2, c3, c4, c5, c6⟩ := hn
  refine ⟨hl, by rw [hw 0 (by omega), c2]; show _ = some (nI (A.1.set i t).length); rw [List.length_set], by rw [hw 1 (by omega), c3], by rw [hw 2 (by omega), c4], fun v x hx => ?_, fun k u hu => ?_⟩
  · have hv := (List.getElem?_eq_some_iff.mp hx).1
    have hv2 : v < 6 := by rw [← hA]; exact hv
    rw [hw _ (by omega)]
    exact c5 v x hx
  · by_cases hk : k = i
    · subst hk
      obtain ⟨z1, z2⟩ := List.getElem?_eq_some_iff.mp hu
      rw [List.getElem_set_self] at z2
      rw [← z2]
      exact hb
    · have hu' : A.1[k]? = some u := by
        rw [← hu]
        exact (List.getElem?_set_ne (fun q => hk q.symm)).symm
      exact ybk_of (c6 k u hu') (fun j j1 j2 => hw j (by omega))
theorem yNow_app {N N' : List Int32} {A : yA} {t : yT} (hn : yNow N A) (hl : N'.length = 387) (hw : yaw N N' (9 + 63 * A.1.length)) (hb : ybk N' (9 + 63 * A.1.length) (ypr t)) (hA : A.2.1.length = 6) : yNow (N'.set 0 (nI (A.1.length + 1))) (A.1 ++ [t], A.2) := by
  obtain ⟨c1, c2, c3, c4, c5, c6⟩ := hn
  have hx : ∀ j, j ≠ 0 → (N'.set 0 (nI (A.1.length + 1)))[j]? = N'[j]? := fun j hj => List.getElem?_set_ne (fun q => hj q.symm)
  refine ⟨by rw [List.length_set, hl], by rw [List.getElem?_set_self (by omega)]; show _ = some (nI (A.1 ++ [t]).length); rw [List.length_append]; rfl, by rw [hx 1 (by omega), hw 1 (by omega), c3], by rw [hx 2 (by omega), hw 2 (by omega), c4], fun v x hx2 => ?_, fun k u hu => ?_⟩
  · have hv := (List.getElem?_eq_some_iff.mp hx2).1
    have hv2 : v < 6 := by rw [← hA]; exact hv
    rw [hx _ (by omega), hw _ (by omega)]
    exact c5 v x hx2
  · by_cases hk : k < A.1.length
    · have hu' : A.1[k]? = some u := by
        rw [← hu]
        exact (List.getElem?_append_left hk).symm
      exact ybk_of (c6 k u hu') (fun j j1 j2 => by rw [hx _ (by omega), hw j (by omega)])
    · have z := (List.getElem?_eq_some_iff.mp hu).1
      have z1 : (A.1 ++ [t]).length = A.1.length + 1 := by rw [List.length_append]; rfl
      have z2 : k = A.1.length := by
        have z' : k < (A.1 ++ [t]).length := z
        omega
      subst z2
      have hu2 : (A.1 ++ [t])[A.1.length]? = some u := hu
      rw [List.getElem?_concat_length] at hu2
      obtain rfl := Option.some.inj hu2
      exact ybk_of hb (fun j j1 j2 => hx j (by omega))
theorem yNow_rem {N : List Int32} {A : yA} {x : Int32} (hn : yNow N A) : yNow (N.set 2 x) (A.1, A.2.1, A.2.2.1, x) := by
  obtain ⟨c1, c2, c3, c4, c5, c6⟩ := hn
  exact ⟨by rw [List.length_set, c1], by rw [List.getElem?_set_ne (by omega), c2], by rw [List.getElem?_set_ne (by omega), c3], by rw [List.getElem?_set_self (by omega)], fun v x hx => by rw [List.getElem?_set_ne (by omega)]; exact c5 v x hx, fun k u hu => ybk_of (c6 k u hu) (fun j j1 j2 => List.getElem?_set_ne (by omega))⟩
theorem yNow_reg {N : List Int32} {A : yA} {x : Int32} (hn : yNow N A) : yNow (N.set 1 x) (A.1, A.2.1, x, A.2.2.2) := by
  obtain ⟨c1, c2, c3, c4, c5, c6⟩ := hn
  exact ⟨by rw [List.length_set, c1], by rw [List.getElem?_set_ne (by omega), c2], by rw [List.getElem?_set_self (by omega)], by rw [List.getElem?_set_ne (by omega), c4], fun v x hx => by rw [List.getElem?_set_ne (by omega)]; exact c5 v x hx, fun k u hu => ybk_of (c6 k u hu) (fun j j1 j2 => List.getElem?_set_ne (by omega))⟩
theorem yNow_var {N : List Int32} {A : yA} {x : Int32} {v : Nat} (hn : yNow N A) (hA : A.2.1.length = 6) (hv : v < 6) : yNow (N.set (3 + v) x) (A.1, A.2.1.set v x, A.2.2) := by
  obtain ⟨c1, c2, c3, c4, c5, c6⟩ := hn
  refine ⟨by rw [List.length_set, c1], by rw [List.getElem?_set_ne (by omega), c2], by rw [List.getElem?_set_ne (by omega), c3], by rw [List.getElem?_set_ne (by omega), c4], fun k y hy => ?_, fun k u hu => ybk_of (c6 k u hu) (fun j j1 j2 => List.getElem?_set_ne (by omega))⟩
  by_cases hk : k = v
  · subst hk
    obtain ⟨z1, z2⟩ := List.getElem?_eq_some_iff.mp hy
    rw [List.getElem_set_self] at z2
    rw [← z2, List.getElem?_set_self (by omega)]
  · have hy' : A.2.1[k]? = some y := by
      rw [← hy]
      exact (List.getElem?_set_ne (fun q => hk q.symm)).symm
    rw [List.getElem?_set_ne (by omega)]
    exact c5 k y hy'
/-- cells of the model that a call may use up -/
def zArr (h : zH) (a kd n : Nat) : Prop := ∃ A : List Int32, h.1 a = (kd, A.map Value.int) ∧ A.length = n
def zScm (h : zH) (m : Nat) : Prop := (∃ p, zLst h (m + 5) (m + 6) p) ∧ (∃ p, zLst h (m + 7) (m + 8) p) ∧ zSF h m ∧ zArr h (m + 11) 20 700 ∧ zArr h (m + 12) 21 700 ∧ zArr h (m + 13) 20 700 ∧ zArr h (m + 14) 20 700 ∧ zArr h (m + 15) 20 700
theorem zArr_cg {h h' : zH} {a kd n : Nat} (ha : zArr h a kd n) (h1 : h'.1 a = h.1 a) : zArr h' a kd n := by
  obtain ⟨A, a1, a2⟩ := ha
  exact ⟨A, h1.trans a1, a2⟩
/-- the part of the model that a change reaches; F: its numbers; A: what it stands for -/
def zWk (h : zH) (m : Nat) (F : Nat → Int32) (A : yA) : Prop := zMo h m F ∧ (∃ N, zTab h (m + 1) N ∧ yNow N A) ∧ zScm h m
def yff (F F' : Nat → Int32) : Prop := F' 3 = F 3 ∧ F' 5 = F 5 ∧ F' 24 = F 24 ∧ F' 26 = F 26 ∧ F' 29 = F 29 ∧ F' 31 = F 31
theorem yff_rfl {F : Nat → Int32} : yff F F := ⟨rfl, rfl, rfl, rfl, rfl, rfl⟩
theorem yff_tr {F F' F'' : Nat → Int32} (h1 : yff F F') (h2 : yff F' F'') : yff F F'' := ⟨h2.1.trans h1.1, h2.2.1.trans h1.2.1, h2.2.2.1.trans h1.2.2.1, h2.2.2.2.1.trans h1.2.2.2.1, h2.2.2.2.2.1.trans h1.2.2.2.2.1, h2.2.2.2.2.2.trans h1.2.2.2.2.2⟩
theorem yff_up {F : Nat → Int32} {j : Nat} {x : Int32} (hj : j = 8 ∨ j = 11 ∨ j = 19 ∨ j = 20 ∨ j = 21 ∨ j = 22 ∨ j = 27 ∨ j = 28 ∨ j = 30) : yff F (yup F j x) := ⟨yup_ne (by omega), yup_ne (by omega), yup_ne (by omega), yup_ne (by omega), yup_ne (by omega), yup_ne (by omega)⟩
def zwf (m : Nat) (h h' : zH) : Prop := (∀ q, q ≠ m → q ≠ m + 1 → (q < m + 5 ∨ m + 16 ≤ q) → h'.1 q = h.1 q) ∧ h'.2 = h.2
theorem zwf_rfl {m : Nat} {h : zH} : zwf m h h := ⟨fun _ _ _ _ => rfl, rfl⟩
theorem zwf_tr {m : Nat} {h h' h'' : zH} (h1 : zwf m h h') (h2 : zwf m h' h'') : zwf m h h'' := ⟨fun q a b c => (h2.1 q a b c).trans (h1.1 q a b c), h2.2.trans h1.2⟩
section ZMA
variable {sv : Nat → Value} {d : Nat} {h : zH} {m : Nat} {F : Nat → Int32} {A : yA} {N : List Int32}
theorem e_199 {x a b : Int32} : zcall zP sv (d + 1) 199 [.int x, .int a, .int b] h = some (.inl (some (.int (yb (decide (¬ x < a) && decide (¬ b < x))))), h) := by
  by_cases h1 : x < a
  · simp only [zc_199, zs_199_0, zs_199_1, zs_199_2, zs_199_5, zs_199_6, zs_199_7, zs_199_10, zs_199_11, zs_199_14, zs_199_15, zgd_t, zty_50, h1, not_true, decide_false, Bool.false_and, yb_f, ↓reduceIte]
  · by_cases h2 : b < x
    · simp only [zc_199, zs_199_0, zs_199_1, zs_199_2, zs_199_5, zs_199_6, zs_199_7, zs_199_10, zs_199_11, zs_199_14, zs_199_15, zgd_t, zty_50, h1, h2, not_true, not_false_eq_true, decide_false, decide_true, Bool.and_false, yb_f, ↓reduceIte]
    · simp only [zc_199, zs_199_0, zs_199_1, zs_199_2, zs_199_5, zs_199_6, zs_199_7, zs_199_10, zs_199_11, zs_199_14, zs_199_15, zgd_t, zty_51, h1, h2, not_false_eq_true, decide_true, Bool.and_self, yb_t, ↓reduceIte]
theorem zty_yb {b : Bool} : zty 5 (.int (yb b)) = true := by cases b <;> rfl
theorem e_204 {c : Int32} : zcall zP sv (d + 2) 204 [.int c] h = some (.inl (some (.int (yb (ylet c)))), h) := by
  simp only [zc_204, zs_204_0, zs_204_1, zs_204_3, zs_204_5, zs_204_8, e_199, zbk_v, zts_s, zty_yb, zgd_t, ylet]
theorem e_203 {x : Int32} (hm : zMo h m F) (hN : zTab h (m + 1) N) (hn : yNow N A) : zcall zP sv (d + 2) 203 [.ref m, .int x] h = some (.inl (some (.int (yb (decide (¬ x < 0) && decide (¬ nI A.1.length - nI 1 < x))))), h) := by
  unfold zMo at hm
  have hN1 := hN.1
  have e0 : ∀ Kv, zael (20, N.map Value.int) 20 0 Kv = Kv (.int (nI A.1.length)) := fun Kv => by
    rw [← nI_0]
    exact zaelv (by rw [List.getElem?_map, hn.2.1]; rfl) (by decide)
  simp only [zc_203, zs_203_0, zs_203_1, zs_203_2, zs_203_2n, zs_203_3, zs_203_6, zs_203_7, zs_203_8, zs_203_9, zs_203_10, zs_203_13, hm, zmf_0, hN1, e0, e_199, zbk_v, zts_s, zty_yb, zgd_t]
theorem e_203t {i : Nat} (hm : zMo h m F) (hN : zTab h (m + 1) N) (hn : yNow N A) (hi : i < A.1.length) (hA : A.1.length ≤ 6) : zcall zP sv (d + 2) 203 [.ref m, .int (nI i)] h = some (.inl (some (.int (nI 1))), h) := by
  obtain ⟨n, hn2⟩ : ∃ n, A.1.length = n + 1 := ⟨A.1.length - 1, by omega⟩
  rw [e_203 hm hN hn, decide_eq_true (nI_pos (by omega)), hn2, nI_m, decide_eq_true (nI_nlt (by omega) (by omega))]
  rfl
theorem e_201 {x : Int32} (hm : zMo h m F) : zcall zP sv (d + 1) 201 [.ref m, .int x] h = some (.inl (some (.int 0)), zup h m (13, zMF m (yup F 30 x))) := by
  unfold zMo at hm
  simp only [zc_201, zs_201_0, zs_201_0n, zs_201_1, zs_201_2, zs_201_5, zs_201_6, hm, zmp_30]
theorem e_198 {x : Int32} (hm : zMo h m F) : zcall zP sv (d + 1) 198 [.ref m, .int x] h = some (.inl (some (.int 0)), zup h m (13, zMF m (yup F 31 x))) := by
  unfold zMo at hm
  simp only [zc_198, zs_198_0, zs_198_0n, zs_198_1, zs_198_2, zs_198_5, zs_198_6, hm, zmp_31]
end ZMA
