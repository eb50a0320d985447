section ZHQ
theorem yis_or {k : Int32} (h : yis k = true) : k = nI 43 ∨ k = nI 45 ∨ k = nI 42 := by
  unfold yis at h
  rw [Bool.or_eq_true, Bool.or_eq_true] at h
  rcases h with (h | h) | h
  · exact Or.inl (of_decide_eq_true h)
  · exact Or.inr (Or.inl (of_decide_eq_true h))
  · exact Or.inr (Or.inr (of_decide_eq_true h))
theorem ytw_ind {P : yT → Prop} (hc : ∀ n v, P (.inner n (nI 99) v .leaf .leaf)) (hx : ∀ n v, ylet v = true → P (.inner n (nI 118) v .leaf .leaf)) (hu : ∀ n l, ytw l = true → P l → P (.inner n (nI 110) 0 l .leaf)) (hb : ∀ n k l r, (k = nI 43 ∨ k = nI 45 ∨ k = nI 42) → ytw l = true → ytw r = true → P l → P r → P (.inner n k 0 l r)) : ∀ t : yT, ytw t = true → P t
  | .leaf, h => by cases h
  | .inner n k v l r, h => by
    rcases ytw_el h with ⟨rfl, rfl, rfl⟩ | ⟨rfl, hv, rfl, rfl⟩ | ⟨rfl, rfl, hl, rfl⟩ | ⟨hk, rfl, hl, hr⟩
    · exact hc n v
    · exact hx n v hv
    · exact hu n l hl (ytw_ind hc hx hu hb l hl)
    · exact hb n k l r (yis_or hk) hl hr (ytw_ind hc hx hu hb l hl) (ytw_ind hc hx hu hb r hr)
theorem yfo_i {f : Int32 → Int32 → Int32 → Int32 → Int32} {n : Nat} {k v : Int32} {l r : yT} : yfo f (.inner n k v l r) = f k v (yfo f l) (yfo f r) := rfl
theorem yfo_l {f : Int32 → Int32 → Int32 → Int32 → Int32} : yfo f .leaf = 0 := rfl
theorem wnn : ((2 : Nat) = 0) = False ∧ ((2 : Nat) = 1) = False ∧ ((3 : Nat) = 0) = False ∧ ((3 : Nat) = 1) = False ∧ ((3 : Nat) = 2) = False := by
  and_intros <;> simp
theorem yk4 : (nI 99 = nI 118) = False ∧ (nI 99 = nI 110) = False ∧ (nI 99 = nI 42) = False ∧ (nI 99 = nI 43) = False ∧ (nI 99 = nI 45) = False ∧ (nI 118 = nI 99) = False ∧ (nI 118 = nI 110) = False ∧ (nI 118 = nI 42) = False ∧ (nI 118 = nI 43) = False ∧ (nI 118 = nI 45) = False ∧ (nI 110 = nI 99) = False ∧ (nI 110 = nI 118) = False ∧ (nI 110 = nI 42) = False ∧ (nI 110 = nI 43) = False ∧ (nI 110 = nI 45) = False ∧ (nI 43 = nI 99) = False ∧ (nI 43 = nI 118) = False ∧ (nI 43 = nI 110) = False ∧ (nI 43 = nI 42) = False ∧ (nI 43 = nI 45) = False ∧ (nI 45 = nI 99) = False ∧ (nI 45 = nI 118) = False ∧ (nI 45 = nI 110) = False ∧ (nI 45 = nI 42) = False ∧ (nI 45 = nI 43) = False ∧ (nI 42 = nI 99) = False ∧ (nI 42 = nI 118) = False ∧ (nI 42 = nI 110) = False ∧ (nI 42 = nI 43) = False ∧ (nI 42 = nI 45) = False := by
  and_intros <;> decide +kernel
theorem ymx_nn {a b : Nat} (ha : a < 2 ^ 31) (hb : b < 2 ^ 31) : ymx (nI a) (nI b) = nI (max a b) := by
  unfold ymx
  by_cases h : a < b
  · rw [if_pos (nI_lt h hb), Nat.max_eq_right (by omega)]
  · rw [if_neg (nI_nlt (by omega) ha), Nat.max_eq_left (by omega)]
theorem ymx_00 : ymx 0 0 = 0 := by decide +kernel
/-- a term's degree -/
def ydg : yT → Nat
  | .leaf => 0
  | .inner _ k _ l r => if k = nI 118 then 1 else if k = nI 42 then ydg l + ydg r else max (ydg l) (ydg r)
theorem ydg_le : ∀ t : yT, ydg t ≤ ysz t
  | .leaf => Nat.le_refl _
  | .inner _ k v l r => by
    have h1 := ydg_le l
    have h2 := ydg_le r
    unfold ydg ysz
    split
    · omega
    · split <;> omega
theorem ydg_i {n : Nat} {k v : Int32} {l r : yT} : ydg (.inner n k v l r) = if k = nI 118 then 1 else if k = nI 42 then ydg l + ydg r else max (ydg l) (ydg r) := rfl
theorem ydg_l : ydg .leaf = 0 := rfl
theorem ydg_P {t : yT} (ht : ytw t = true) (hz : ysz t < 1000) : yfo yfP t = nI (ydg t) ∧ ∀ N, yfo (ymf 2 N) t = nI (ydg t) := by
  revert hz
  refine ytw_ind (P := fun t => ysz t < 1000 → yfo yfP t = nI (ydg t) ∧ ∀ N, yfo (ymf 2 N) t = nI (ydg t)) ?_ ?_ ?_ ?_ t ht
  · intro n v _
    simp only [yfo_i, yfo_l, yfP, ymf, ydg_i, ydg_l, yk4, if_true, if_false, wnn, ymx_00]
    exact ⟨nI_0.symm, fun N => nI_0.symm⟩
  · intro n v _ _
    simp only [yfo_i, yfo_l, yfP, ymf, ydg_i, ydg_l, yk4, if_true, if_false, wnn]
    exact ⟨trivial, fun N => trivial⟩
  · intro n l hl ih hz
    have hz' : ysz l + 0 + 1 < 1000 := hz
    have hd := ydg_le l
    obtain ⟨i1, i2⟩ := ih (by omega)
    simp only [yfo_i, yfo_l, yfP, ymf, ydg_i, ydg_l, yk4, if_true, if_false, wnn, i1, i2]
    have e : ymx (nI (ydg l)) 0 = nI (max (ydg l) 0) := by
      have := ymx_nn (a := ydg l) (b := 0) (by omega) (by decide)
      rwa [nI_0] at this
    exact ⟨e, fun N => by rw [Nat.max_zero]⟩
  · intro n k l r hk hl hr ihl ihr hz
    have hz' : ysz l + ysz r + 1 < 1000 := hz
    have hd := ydg_le l
    have hd2 := ydg_le r
    obtain ⟨i1, i2⟩ := ihl (by omega)
    obtain ⟨j1, j2⟩ := ihr (by omega)
    rcases hk with rfl | rfl | rfl
    all_goals simp only [yfo_i, yfo_l, yfP, ymf, ydg_i, ydg_l, yk4, if_true, if_false, wnn, i1, i2, j1, j2, nI_add]
    · exact ⟨ymx_nn (by omega) (by omega), fun N => ymx_nn (by omega) (by omega)⟩
    · exact ⟨ymx_nn (by omega) (by omega), fun N => ymx_nn (by omega) (by omega)⟩
    · exact ⟨trivial, fun N => trivial⟩
theorem yNow_v {N : List Int32} {A : yA} (hN : yNow N A) (hA : yAok A) {v : Int32} (hv : ylet v = true) : yg A.2.1 (v - nI 97) = yg N (nI 3 + (v - nI 97)) := by
  unfold ylet at hv
  rw [Bool.and_eq_true] at hv
  obtain ⟨j, hj, rfl⟩ := zvar_of (of_decide_eq_true hv.1) (of_decide_eq_true hv.2)
  have e1 : A.2.1[j]? = some (A.2.1[j]'(by rw [hA.2.2]; exact hj)) := List.getElem?_eq_getElem _
  rw [nI_sub', nI_add, yg_e (by omega) e1, yg_e (by omega) (hN.2.2.2.2.1 j _ e1)]
theorem yval_N {N : List Int32} {A : yA} (hN : yNow N A) (hA : yAok A) {t : yT} (ht : ytw t = true) : yfo (ymf 0 N) t = yfo (yfR A.2.1) t := by
  refine ytw_ind (P := fun t => yfo (ymf 0 N) t = yfo (yfR A.2.1) t) ?_ ?_ ?_ ?_ t ht
  · intro n v
    simp only [yfo_i, yfo_l, yfR, ymf, if_true]
  · intro n v hv
    simp only [yfo_i, yfo_l, yfR, ymf, yk4, if_true, if_false, yNow_v hN hA hv]
  · intro n l hl ih
    simp only [yfo_i, yfo_l, yfR, ymf, yop, yk4, if_true, if_false, ih]
  · intro n k l r hk hl hr ihl ihr
    rcases hk with rfl | rfl | rfl <;> simp only [yfo_i, yfo_l, yfR, ymf, yop, yk4, if_true, if_false, ihl, ihr]
theorem yreg_D {N : List Int32} {t : yT} (ht : ytw t = true) : yfo (ymf 3 N) t = yfo yfD t := by
  refine ytw_ind (P := fun t => yfo (ymf 3 N) t = yfo yfD t) ?_ ?_ ?_ ?_ t ht
  · intro n v
    simp only [yfo_i, yfo_l, yfD, yis, ymf, yk4, wnn, if_true, if_false, decide_false, Bool.or_self, Bool.false_eq_true]
  · intro n v hv
    simp only [yfo_i, yfo_l, yfD, yis, ymf, yk4, wnn, if_true, if_false, decide_false, Bool.or_self, Bool.false_eq_true]
  · intro n l hl ih
    simp only [yfo_i, yfo_l, yfD, yis, ymf, yk4, wnn, if_true, if_false, ih, decide_false, Bool.or_self, Bool.false_eq_true]
  · intro n k l r hk hl hr ihl ihr
    rcases hk with rfl | rfl | rfl <;> simp only [yfo_i, yfo_l, yfD, yis, ymf, yk4, wnn, if_true, if_false, ihl, ihr, decide_true, decide_false, Bool.or_true, Bool.or_false]
theorem yreg_n {t : yT} (ht : ytw t = true) (hz : ysz t < 1000) : ∃ n, n ≤ ysz t ∧ yfo yfD t = nI n ∧ yfo yfO t = nI n := by
  revert hz
  refine ytw_ind (P := fun t => ysz t < 1000 → ∃ n, n ≤ ysz t ∧ yfo yfD t = nI n ∧ yfo yfO t = nI n) ?_ ?_ ?_ ?_ t ht
  · intro n v hz
    refine ⟨1, Nat.le_refl _, ?_, ?_⟩ <;> simp only [yfo_i, yfo_l, yfD, yfO, yis, yk4, if_false, decide_false, Bool.or_self, Bool.false_eq_true]
  · intro n v hv hz
    refine ⟨1, Nat.le_refl _, ?_, ?_⟩ <;> simp only [yfo_i, yfo_l, yfD, yfO, yis, yk4, if_false, decide_false, Bool.or_self, Bool.false_eq_true]
  · intro n l hl ih hz
    have hz' : ysz l + 0 + 1 < 1000 := hz
    obtain ⟨x, x1, x2, x3⟩ := ih (by omega)
    refine ⟨x, by show x ≤ ysz l + 0 + 1; omega, ?_, ?_⟩ <;> simp only [yfo_i, yfo_l, yfD, yfO, yis, yk4, if_true, if_false, x2, x3, decide_false, Bool.or_self, Bool.false_eq_true]
  · intro n k l r hk hl hr ihl ihr hz
    have hz' : ysz l + ysz r + 1 < 1000 := hz
    obtain ⟨x, x1, x2, x3⟩ := ihl (by omega)
    obtain ⟨y, y1, y2, y3⟩ := ihr (by omega)
    have hy : yis k = true := by rcases hk with rfl | rfl | rfl <;> decide +kernel
    have e1 : ymx (nI y) (nI x + nI 1) = nI (max y (x + 1)) := by rw [nI_add]; exact ymx_nn (by omega) (by omega)
    have e2 : ymx (nI x) (nI y + nI 1) = nI (max x (y + 1)) := by rw [nI_add]; exact ymx_nn (by omega) (by omega)
    have e3 : ymx (nI x) (nI y) = nI (max x y) := ymx_nn (by omega) (by omega)
    refine ⟨if x = y then x + 1 else max x y, by show _ ≤ ysz l + ysz r + 1; split <;> omega, ?_, ?_⟩
    · show (if yis k = true then (if yfo yfD l = yfo yfD r then yfo yfD l + nI 1 else ymx (yfo yfD l) (yfo yfD r)) else _) = _
      rw [if_pos hy, x2, y2, e3, nI_add]
      by_cases h : x = y
      · subst h; rw [if_pos rfl, if_pos rfl]
      · rw [if_neg (fun q => h (by
          have := congrArg Int32.toInt q
          rw [nI_toInt (by omega), nI_toInt (by omega)] at this
          omega)), if_neg h]
    · show (if yis k = true then (if ymx (yfo yfO r) (yfo yfO l + nI 1) < ymx (yfo yfO l) (yfo yfO r + nI 1) then ymx (yfo yfO r) (yfo yfO l + nI 1) else ymx (yfo yfO l) (yfo yfO r + nI 1)) else _) = _
      rw [if_pos hy, x3, y3, e1, e2]
      by_cases h : max y (x + 1) < max x (y + 1)
      · rw [if_pos (nI_lt h (by omega))]
        congr 1
        split <;> omega
      · rw [if_neg (nI_nlt (by omega) (by omega))]
        congr 1
        split <;> omega
theorem yoc_ct {c : Int32} : ∀ (t : yT) (off : Nat), yoc c (ypo off t) = yct (c - nI 97) (ypr t)
  | .leaf, _ => rfl
  | .inner n k v l r, off => by
    have i1 := yoc_ct (c := c) l off
    have i2 := yoc_ct (c := c) r (off + ysz l)
    unfold yoc yct at i1 i2 ⊢
    unfold ypo ypr
    simp only [List.countP_append, List.countP_cons, List.countP_nil, i1, i2, Nat.zero_add]
    congr 1
    show (if decide (k = nI 118 ∧ v = c) = true then 1 else 0) = if (decide (k = nI 118) && decide (yva k v = c - nI 97)) = true then 1 else 0
    by_cases hk : k = nI 118
    · subst hk
      rw [yva_v]
      have e : (v - nI 97 = c - nI 97) = (v = c) := by
        apply propext
        constructor
        · intro q
          have := congrArg (· + nI 97) q
          simpa using this
        · intro q; rw [q]
      simp only [true_and, decide_true, Bool.true_and, e]
    · simp only [hk, false_and, decide_false, Bool.false_and]
theorem yvr_vc : ∀ (t : yT) (off : Nat), yvr (ypo off t) = !decide (yvc (ypr t) = 0)
  | .leaf, _ => rfl
  | .inner n k v l r, off => by
    have i1 := yvr_vc l off
    have i2 := yvr_vc r (off + ysz l)
    unfold yvr yvc at i1 i2 ⊢
    unfold ypo ypr
    rw [List.any_append, List.any_append, List.countP_cons, List.countP_append, i1, i2]
    obtain ⟨x, hx⟩ : ∃ x, x = List.countP (fun q : Int32 × Int32 => decide (q.1 = nI 118)) (ypr l) := ⟨_, rfl⟩
    obtain ⟨y, hy⟩ : ∃ y, y = List.countP (fun q : Int32 × Int32 => decide (q.1 = nI 118)) (ypr r) := ⟨_, rfl⟩
    rw [← hx, ← hy]
    show ((!decide (x = 0) || !decide (y = 0)) || (decide (k = nI 118) || false)) = !decide (x + y + (if decide (k = nI 118) = true then 1 else 0) = 0)
    by_cases hk : k = nI 118 <;> by_cases h1 : x = 0 <;> by_cases h2 : y = 0 <;> simp [hk, h1, h2]
theorem yeq_i {n n' : Nat} {k v k' v' : Int32} {l r l' r' : yT} : yeq (.inner n k v l r) (.inner n' k' v' l' r') = (decide (k = k') && decide (v = v') && yeq l l' && yeq r r') := rfl
theorem ypr_i {n : Nat} {k v : Int32} {l r : yT} : ypr (.inner n k v l r) = (k, yva k v) :: (ypr l ++ ypr r) := rfl
theorem yva_ij {k v v' : Int32} (h : yva k v = yva k v') : v = v' := by
  unfold yva at h
  split at h
  · have := congrArg (· + nI 97) h
    simpa using this
  · exact h
theorem yeq_refl : ∀ t : yT, yeq t t = true
  | .leaf => rfl
  | .inner n k v l r => by rw [yeq_i, yeq_refl l, yeq_refl r, decide_eq_true rfl, decide_eq_true rfl]; rfl
theorem yeq_ypr : ∀ t u : yT, yeq t u = true → ypr t = ypr u
  | .leaf, .leaf, _ => rfl
  | .leaf, .inner _ _ _ _ _, h => by cases h
  | .inner _ _ _ _ _, .leaf, h => by cases h
  | .inner n k v l r, .inner n' k' v' l' r', h => by
    rw [yeq_i, Bool.and_eq_true, Bool.and_eq_true, Bool.and_eq_true] at h
    obtain ⟨⟨⟨h1, h2⟩, h3⟩, h4⟩ := h
    rw [ypr_i, ypr_i, of_decide_eq_true h1, of_decide_eq_true h2, yeq_ypr l l' h3, yeq_ypr r r' h4]
theorem ypr_inj {t : yT} (ht : ytw t = true) : ∀ (u : yT) (a b : yP), ytw u = true → ypr t ++ a = ypr u ++ b → yeq t u = true ∧ a = b := by
  refine ytw_ind (P := fun t => ∀ (u : yT) (a b : yP), ytw u = true → ypr t ++ a = ypr u ++ b → yeq t u = true ∧ a = b) ?_ ?_ ?_ ?_ t ht
  · intro n v u a b hu h
    match u, hu, h with
    | .leaf, hu, h => cases hu
    | .inner n' k' v' l' r', hu, h =>
      rw [ypr_i, ypr_i, List.cons_append, List.cons_append, List.cons.injEq, Prod.mk.injEq] at h
      obtain ⟨⟨rfl, h2⟩, h3⟩ := h
      obtain rfl := yva_ij h2
      rcases ytw_el hu with ⟨_, rfl, rfl⟩ | ⟨q, _⟩ | ⟨q, _⟩ | ⟨q, _⟩
      · exact ⟨by rw [yeq_i, decide_eq_true rfl, decide_eq_true rfl]; rfl, h3⟩
      · exact absurd q (by decide +kernel)
      · exact absurd q (by decide +kernel)
      · exact absurd q (by decide +kernel)
  · intro n v hv u a b hu h
    match u, hu, h with
    | .leaf, hu, h => cases hu
    | .inner n' k' v' l' r', hu, h =>
      rw [ypr_i, ypr_i, List.cons_append, List.cons_append, List.cons.injEq, Prod.mk.injEq] at h
      obtain ⟨⟨rfl, h2⟩, h3⟩ := h
      obtain rfl := yva_ij h2
      rcases ytw_el hu with ⟨q, _⟩ | ⟨_, _, rfl, rfl⟩ | ⟨q, _⟩ | ⟨q, _⟩
      · exact absurd q (by decide +kernel)
      · exact ⟨by rw [yeq_i, decide_eq_true rfl, decide_eq_true rfl]; rfl, h3⟩
      · exact absurd q (by decide +kernel)
      · exact absurd q (by decide +kernel)
  · intro n l hl ih u a b hu h
    match u, hu, h with
    | .leaf, hu, h => cases hu
    | .inner n' k' v' l' r', hu, h =>
      rw [ypr_i, ypr_i, List.cons_append, List.cons_append, List.cons.injEq, Prod.mk.injEq] at h
      obtain ⟨⟨rfl, h2⟩, h3⟩ := h
      obtain rfl := yva_ij h2
      rcases ytw_el hu with ⟨q, _⟩ | ⟨q, _⟩ | ⟨_, _, hl', rfl⟩ | ⟨q, _⟩
      · exact absurd q (by decide +kernel)
      · exact absurd q (by decide +kernel)
      · rw [List.append_assoc, List.append_assoc] at h3
        obtain ⟨i1, i2⟩ := ih l' _ _ hl' h3
        exact ⟨by rw [yeq_i, decide_eq_true rfl, decide_eq_true rfl, i1]; rfl, i2⟩
      · exact absurd q (by decide +kernel)
  · intro n k l r hk hl hr ihl ihr u a b hu h
    match u, hu, h with
    | .leaf, hu, h => cases hu
    | .inner n' k' v' l' r', hu, h =>
      rw [ypr_i, ypr_i, List.cons_append, List.cons_append, List.cons.injEq, Prod.mk.injEq] at h
      obtain ⟨⟨rfl, h2⟩, h3⟩ := h
      obtain rfl := yva_ij h2
      have hy : yis k = true := by rcases hk with rfl | rfl | rfl <;> decide +kernel
      have hn := yis_ne hy
      rcases ytw_el hu with ⟨q, _⟩ | ⟨q, _⟩ | ⟨q, _⟩ | ⟨_, _, hl', hr'⟩
      · exact absurd q hn.1
      · exact absurd q hn.2.1
      · exact absurd q hn.2.2.1
      · rw [List.append_assoc, List.append_assoc] at h3
        obtain ⟨i1, i2⟩ := ihl l' _ _ hl' h3
        obtain ⟨j1, j2⟩ := ihr r' _ _ hr' i2
        exact ⟨by rw [yeq_i, decide_eq_true rfl, decide_eq_true rfl, i1, j1]; rfl, j2⟩
theorem yeq_pr {t u : yT} (ht : ytw t = true) (hu : ytw u = true) : yeq t u = decide (ypr t = ypr u) := by
  cases h : yeq t u with
  | true => rw [yeq_ypr t u h, decide_eq_true rfl]
  | false =>
    symm
    refine decide_eq_false fun q => ?_
    have := (ypr_inj ht u [] [] hu (by rw [q])).1
    rw [h] at this
    cases this
theorem ysl_i {f : Int32 → Int32 → Int32 → Int32 → Int32} {c : Int32} {n : Nat} {k v : Int32} {l r : yT} : ysl f c (.inner n k v l r) = yst1 c k v (ysl f c l) (ysl f c r) (yfo f l) (yfo f r) := rfl
theorem ysl2_i {T : List Int32} {c : Int32} {n : Nat} {k v : Int32} {l r : yT} : ysl2 T c (.inner n k v l r) = yst2 c k v (ysl2 T c l) (ysl2 T c r) (yfo (yfR T) l) (yfo (yfR T) r) := rfl
theorem ysub_e {v c : Int32} : (v - nI 97 = c - nI 97) = (v = c) := by
  apply propext
  constructor
  · intro q
    have := congrArg (· + nI 97) q
    simpa using this
  · intro q; rw [q]
theorem yslo_e {N : List Int32} {A : yA} (hN : yNow N A) (hA : yAok A) {c : Int32} {t : yT} (ht : ytw t = true) : ysl (ymf 0 N) (c - nI 97) t = ysl2 A.2.1 c t := by
  refine ytw_ind (P := fun t => ysl (ymf 0 N) (c - nI 97) t = ysl2 A.2.1 c t) ?_ ?_ ?_ ?_ t ht
  · intro n v
    simp only [ysl_i, ysl2_i, yst1, yst2, yk4, if_true, if_false, true_or, false_and]
  · intro n v hv
    simp only [ysl_i, ysl2_i, yst1, yst2, yva_v, ysub_e, yk4, if_true, if_false, or_true, true_and]
  · intro n l hl ih
    simp only [ysl_i, ysl2_i, yst1, yst2, yop, ih, yk4, if_true, if_false, or_self]
  · intro n k l r hk hl hr ihl ihr
    rcases hk with rfl | rfl | rfl <;> simp only [ysl_i, ysl2_i, yst1, yst2, yop, ihl, ihr, yval_N hN hA hl, yval_N hN hA hr, yk4, if_true, if_false, or_self]
theorem yder_i {c : Int32} {n : Nat} {k v : Int32} {l r : yT} : yder c (.inner n k v l r) = if k = nI 110 then ymk (nI 110) 0 (yder c l) .leaf else if k = nI 43 ∨ k = nI 45 then ymk k 0 (yder c l) (yder c r) else if k = nI 42 then ymk (nI 43) 0 (ymk (nI 42) 0 (yder c l) r) (ymk (nI 42) 0 l (yder c r)) else ycn (if k = nI 118 ∧ v = c then nI 1 else 0) := rfl
theorem yfo_mk {f : Int32 → Int32 → Int32 → Int32 → Int32} {k v : Int32} {l r : yT} : yfo f (ymk k v l r) = f k v (yfo f l) (yfo f r) := rfl
theorem yfo_cn {T : List Int32} {x : Int32} : yfo (yfR T) (ycn x) = x := by
  show yfR T (nI 99) x 0 0 = x
  unfold yfR
  rw [if_pos rfl]
/-- the derivative's value is the slope -/
theorem yder_v {T : List Int32} {c : Int32} {t : yT} (ht : ytw t = true) : yfo (yfR T) (yder c t) = ysl2 T c t := by
  refine ytw_ind (P := fun t => yfo (yfR T) (yder c t) = ysl2 T c t) ?_ ?_ ?_ ?_ t ht
  · intro n v
    simp only [yder_i, ysl2_i, yst2, yk4, if_true, if_false, or_self, true_or, false_and, yfo_cn]
  · intro n v hv
    simp only [yder_i, ysl2_i, yst2, yk4, if_true, if_false, or_self, or_true, true_and, yfo_cn]
  · intro n l hl ih
    simp only [yder_i, ysl2_i, yst2, yop, yfR, yk4, if_true, if_false, or_self, yfo_mk, ih]
  · intro n k l r hk hl hr ihl ihr
    rcases hk with rfl | rfl | rfl <;> simp only [yder_i, ysl2_i, yst2, yop, yfR, yk4, if_true, if_false, or_self, or_true, true_or, yfo_mk, ihl, ihr]
end ZHQ
