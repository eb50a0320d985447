def yML (sv : Nat → Value) (m : Nat) (F : Nat → Int32) (cs : List Int32) (K c f md o : Nat) : Prop := ∀ (op pos : Nat) (h : zH) (a : Option yT) (qs qs1 : yP) (D : Nat), ymu o op pos < f → 5 * (7 - op) + c ≤ D → op ≤ 6 → zPs h m F cs pos op qs1 → qs1.length ≤ pos → ynk qs1 → (∀ t, a = some t → qs1 = qs ++ ypr t) → zMR m F cs op qs h (zrun zP sv (zcall zP sv D) K 10 [.val (.ref m), .val (.int (nI qs.length)), .val (.int (yb a.isSome))] [] h) (ypa cs f md a op pos)
theorem y_btw {c k : Int32} : (decide (¬ c < k) && decide (¬ k < c)) = decide (c = k) := by
  by_cases h : c = k
  · subst h
    rw [decide_eq_true (p := ¬ c < c) Int32.lt_irrefl, decide_eq_true rfl]
    rfl
  · rw [decide_eq_false h]
    rcases Int32.lt_or_lt_of_ne h with q | q
    · rw [decide_eq_false (fun z => z q), Bool.false_and]
    · have z2 : decide (¬ k < c) = false := decide_eq_false (fun z => z q)
      rw [z2, Bool.and_false]
theorem ynr_42 : ynr (nI 42) = nI 42 := by decide +kernel
theorem ynr_43 : ynr (nI 43) = nI 43 := by decide +kernel
theorem ynr_45 : ynr (nI 45) = nI 45 := by decide +kernel
theorem n4232 : nI 42 ≠ nI 32 := by decide +kernel
theorem n3243 : nI 32 < nI 43 := by decide +kernel
theorem n3245 : nI 32 < nI 45 := by decide +kernel
theorem yva_0 {k : Int32} (h : k ≠ nI 118) : yva k 0 = 0 := if_neg h
theorem n42118 : nI 42 ≠ nI 118 := by decide +kernel
theorem n43118 : nI 43 ≠ nI 118 := by decide +kernel
theorem n45118 : nI 45 ≠ nI 118 := by decide +kernel
section ZPF
variable {sv : Nat → Value} {m : Nat} {F : Nat → Int32} {cs : List Int32}
theorem e_230 {f : Nat} (hI : yMP sv m F cs 228 6 f 0 4) : yMP sv m F cs 230 4 (f + 1) 4 0 := by
  intro op pos h qs D hmu hD hop hp hq hk
  have hmu2 : 400 * (7 - op) + 5 * (61 - pos) + 0 < f + 1 := hmu
  obtain ⟨d, rfl⟩ : ∃ d, D = d + 3 := ⟨D - 3, by omega⟩
  rw [ypa_4]
  obtain ⟨h1, n', e1, p1, f1⟩ := e_230n (sv := sv) (d := d) 6 0 h pos qs rfl hp hq
  have hyn : ∀ k pos, yng cs pos k ≤ k := by
    intro k
    induction k with
    | zero => intro pos; unfold yng; exact Nat.le_refl _
    | succ k ih =>
      intro pos
      have z : yng cs pos (k + 1) = if ycat cs pos = nI 45 then yng cs (pos + 1) k + 1 else 0 := by
        conv => lhs; unfold yng
      rw [z]
      split
      · have := ih (pos + 1); omega
      · exact Nat.zero_le _
  have hq1 : (qs ++ List.replicate (yng cs pos 6) (nI 110, (0 : Int32))).length ≤ pos + yng cs pos 6 := by
    rw [List.length_append, List.length_replicate]
    omega
  have hk1 : ynk (qs ++ List.replicate (yng cs pos 6) (nI 110, (0 : Int32))) := ynk_app hk ynk_rep
  have key : zMR m F cs op (qs ++ List.replicate (yng cs pos 6) (nI 110, (0 : Int32))) h1 (zrun zP sv (zcall zP sv (d + 2)) 230 30 [.val (.ref m), .val (.int (nI n'))] [] h1) (ypu cs f op (pos + yng cs pos 6)) := by
    by_cases hd : yisd (ycat cs (pos + yng cs pos 6)) = true
    · rw [ypu_d hd]
      exact e_230d p1 hq1 hk1 hd
    · by_cases hv : ylet (ycat cs (pos + yng cs pos 6)) = true
      · rw [ypu_v hv]
        exact e_230v p1 hq1 hk1 hv
      · exact e_230p hI hop (fun ho => by
          show 400 * (7 - (op + 1)) + 5 * (61 - (pos + yng cs pos 6 + 1)) + 4 < f
          omega) (fun ho => by omega) p1 hq1 hk1 hv hd
  have e0 : zcall zP sv (d + 3) 230 [.ref m] h = zrun zP sv (zcall zP sv (d + 2)) 230 30 [.val (.ref m), .val (.int (nI n'))] [] h1 := by
    rw [← e1, zc_230]
    simp (disch := exact znw_u) only [zs_230_0, zs_230_1, nI_0]
  rw [e0]
  obtain ⟨h', qs', e, a1, a2, a3, a4, a5⟩ := key
  refine ⟨h', qs', ?_, a1, zfm_tr f1 a2, a3, a4, fun t ht => ?_⟩
  · rw [e]
    dsimp only
    rw [Option.isSome_map]
  · obtain ⟨u, hu, rfl⟩ := Option.map_eq_some_iff.mp ht
    rw [a5 u hu, ypr_ywr, List.append_assoc]
theorem e_229l {f : Nat} (hA : yMP sv m F cs 230 4 f 4 0) (hL : yML sv m F cs 229 4 f 3 1) : yML sv m F cs 229 4 (f + 1) 3 1 := by
  intro op pos h a qs qs1 D hmu hD hop hp hq hk ha
  have hmu2 : 400 * (7 - op) + 5 * (61 - pos) + 1 < f + 1 := hmu
  have hln := zPs_ln hp
  cases a with
  | none =>
    rw [ypa_3n]
    refine ⟨h, qs1, ?_, hp, zfm_rfl, hq, hk, fun t ht => by cases ht⟩
    simp only [Option.isSome_none, yb_f, zs_229_0, zs_229_0n, zs_229_1, zs_229_4, zs_229_5, zs_229_5n, zs_229_6, zs_229_9, zs_229_10, zs_229_11, zs_229_14, zs_229_14n, zs_229_15, zs_229_17, zs_229_20, zs_229_23, zs_229_23n, zs_229_24, zs_229_26, zs_229_27, zs_229_30, zs_229_30n, zs_229_31, zs_229_34, zs_229_38, zs_229_39, ↓reduceIte, zgd_t, zty_50]
  | some t =>
    obtain rfl := ha t rfl
    obtain ⟨d, rfl⟩ : ∃ d, D = d + 1 := ⟨D - 1, by omega⟩
    have hr : ∀ X : zR, zrc (h.1 m) 13 X = X := fun X => zPs_rc hp
    obtain ⟨h1, e1, p1, f1⟩ := e_225 (sv := sv) (d := d) hp n4232
    rw [ypa_3s]
    by_cases hc : ycat cs pos = nI 42
    · rw [if_pos hc, hc]
      rw [if_pos hc] at p1
      rw [decide_eq_true hc, yb_t] at e1
      have hr1 : ∀ X : zR, zrc (h1.1 m) 13 X = X := fun X => zPs_rc p1
      obtain ⟨h2, e2, p2, f2⟩ := e_227 (sv := sv) (d := d) (k := nI 42) p1 hk ynr_42 (by omega)
      have hr2 : ∀ X : zR, zrc (h2.1 m) 13 X = X := fun X => zPs_rc p2
      have hl2 : (qs ++ (nI 42, (0 : Int32)) :: ypr t).length = (qs ++ ypr t).length + 1 := by rw [List.length_append, List.length_append, List.length_cons]; omega
      have hk2 : ynk (qs ++ (nI 42, (0 : Int32)) :: ypr t) := ynk_app (fun q hq => hk q (List.mem_append_left _ hq)) (ynk_cons ynr_42 (fun q hq => hk q (List.mem_append_right _ hq)))
      have hle : pos + 1 ≤ cs.length := (zPs_ln p1).2
      obtain ⟨h3, qs3, e3, p3, f3, l3, n3, r3⟩ := hA op (pos + 1) h2 _ (d + 1) (by
        show 400 * (7 - op) + 5 * (61 - (pos + 1)) + 0 < f
        omega) (by omega) hop p2 (by omega) hk2
      have hmono := (ypa_sz (cs := cs) f 4 none op (pos + 1)).1
      have q := hL op (ypa cs f 4 none op (pos + 1)).2 h3 ((ypa cs f 4 none op (pos + 1)).1.map (fun u => ymk (nI 42) 0 t u)) qs qs3 (d + 1) (by
        show 400 * (7 - op) + 5 * (61 - (ypa cs f 4 none op (pos + 1)).2) + 1 < f
        omega) hD hop p3 l3 n3 (fun t' ht' => by
          obtain ⟨u, hu, rfl⟩ := Option.map_eq_some_iff.mp ht'
          rw [r3 u hu, ypr_mk, yva_0 n42118, List.append_assoc]
          rfl)
      rw [Option.isSome_map] at q
      have S : zrun zP sv (zcall zP sv (d + 1)) 229 10 [.val (.ref m), .val (.int (nI qs.length)), .val (.int (yb (some t).isSome))] [] h = zrun zP sv (zcall zP sv (d + 1)) 229 10 [.val (.ref m), .val (.int (nI qs.length)), .val (.int (yb (ypa cs f 4 none op (pos + 1)).1.isSome))] [] h3 := by
        have eb : zrun zP sv (zcall zP sv (d + 1)) 229 35 [.val (.ref m), .val (.int (nI qs.length)), .val (.int (yb (ypa cs f 4 none op (pos + 1)).1.isSome))] [] h3 = zrun zP sv (zcall zP sv (d + 1)) 229 10 [.val (.ref m), .val (.int (nI qs.length)), .val (.int (yb (ypa cs f 4 none op (pos + 1)).1.isSome))] [] h3 := zs_229_35
        rw [← eb]
        simp (disch := exact znw_i) only [Option.isSome_some, yb_t, zs_229_1, zs_229_4, zs_229_5, zs_229_5n, zs_229_6, zs_229_9, zs_229_10, zs_229_11, zs_229_14, zs_229_14n, zs_229_15, zs_229_17, zs_229_20, zs_229_23, zs_229_23n, zs_229_24, zs_229_26, zs_229_27, zs_229_30, zs_229_30n, zs_229_31, zs_229_34, zs_229_38, zs_229_39, nI_1e0, hr, e1, hr1, e2, hr2, e3, zbk_v, zts_s, zts_n, ↓reduceIte]
      rw [S]
      exact zMR_tr (qs1 := qs) q (zfm_tr f1 (zfm_tr f2 f3))
    · rw [if_neg hc]
      rw [if_neg hc] at p1
      rw [decide_eq_false hc, yb_f] at e1
      refine ⟨h1, _, ?_, p1, f1, hq, hk, fun t' ht' => by cases ht'; rfl⟩
      simp only [Option.isSome_some, yb_t, zs_229_0, zs_229_0n, zs_229_1, zs_229_4, zs_229_5, zs_229_5n, zs_229_6, zs_229_9, zs_229_10, zs_229_11, zs_229_14, zs_229_14n, zs_229_15, zs_229_17, zs_229_20, zs_229_23, zs_229_23n, zs_229_24, zs_229_26, zs_229_27, zs_229_30, zs_229_30n, zs_229_31, zs_229_34, zs_229_38, zs_229_39, nI_1e0, hr, e1, zbk_v, zts_s, ↓reduceIte, zgd_t, zty_51]
theorem e_229 {f : Nat} (hA : yMP sv m F cs 230 4 f 4 0) (hL : yML sv m F cs 229 4 f 3 1) : yMP sv m F cs 229 5 (f + 1) 2 2 := by
  intro op pos h qs D hmu hD hop hp hq hk
  have hmu2 : 400 * (7 - op) + 5 * (61 - pos) + 2 < f + 1 := hmu
  obtain ⟨d, rfl⟩ : ∃ d, D = d + 1 := ⟨D - 1, by omega⟩
  rw [ypa_2]
  obtain ⟨h1, qs1, e1, p1, f1, l1, n1, r1⟩ := hA op pos h qs d (by
    show 400 * (7 - op) + 5 * (61 - pos) + 0 < f
    omega) (by omega) hop hp hq hk
  have hmono := (ypa_sz (cs := cs) f 4 none op pos).1
  have q := hL op (ypa cs f 4 none op pos).2 h1 (ypa cs f 4 none op pos).1 qs qs1 d (by
    show 400 * (7 - op) + 5 * (61 - (ypa cs f 4 none op pos).2) + 1 < f
    omega) (by omega) hop p1 l1 n1 r1
  obtain ⟨⟨G, g, g1, g2, g3, g4, g5⟩, _⟩ := id hp
  have e0 : zcall zP sv (d + 1) 229 [.ref m] h = zrun zP sv (zcall zP sv d) 229 10 [.val (.ref m), .val (.int (nI qs.length)), .val (.int (yb (ypa cs f 4 none op pos).1.isSome))] [] h1 := by
    simp (disch := exact znw_u) only [zc_229, zs_229_0, zs_229_1, zs_229_4, zs_229_5, zs_229_6, zs_229_9, g, zmf_11, g3, zrc_13v, e1, zbk_v, zts_s]
  rw [e0]
  exact zMR_tr (qs1 := qs) q f1
end ZPF
