def ymu (m op pos : Nat) : Nat := 400 * (7 - op) + 5 * (61 - pos) + m
def yPA (sv : Nat → Value) (p : Nat) (cs : List Int32) (f m o K c : Nat) : Prop := ∀ (op pos : Nat) (h : zH) (ns : List yN) (D : Nat), ymu o op pos < f → 5 * (7 - op) + c ≤ D → op ≤ 6 → zPar h p cs pos ns → ywf ns → ns.length ≤ pos → pos ≤ cs.length → zPR h p cs pos ns (zcall zP sv D K [.ref p, .int (nI op)] h) (ypa cs f m none op pos)
def yPL (sv : Nat → Value) (p : Nat) (cs : List Int32) (f m o K c : Nat) : Prop := ∀ (op pos k : Nat) (h : zH) (ns : List yN) (D : Nat) (x : Int32) (a : Option yT) (s4 : Slot), znw s4 = true → ymu o op pos < f → 5 * (7 - op) + c ≤ D → op ≤ 6 → zPar h p cs pos ns → ywf ns → ns.length ≤ pos → pos ≤ cs.length → k ≤ pos → yis1 ns x a → zPR h p cs pos ns (zrun zP sv (zcall zP sv D) K 8 [.val (.ref p), .val (.int (nI op)), .val (.int x), .val (.int (nI k)), s4] [] h) (ypa cs f m a op pos)
theorem ypa_0 {cs : List Int32} {f op pos : Nat} {a : Option yT} : ypa cs (f + 1) 0 a op pos = ypa cs f 1 (ypa cs f 2 none op pos).1 op (ypa cs f 2 none op pos).2 := by
  conv => lhs; unfold ypa
  rfl
theorem ypa_2 {cs : List Int32} {f op pos : Nat} {a : Option yT} : ypa cs (f + 1) 2 a op pos = ypa cs f 3 (ypa cs f 4 none op pos).1 op (ypa cs f 4 none op pos).2 := by
  conv => lhs; unfold ypa
  rfl
theorem ypa_1n {cs : List Int32} {f op pos : Nat} : ypa cs (f + 1) 1 none op pos = (none, pos) := by
  conv => lhs; unfold ypa
  rfl
theorem ypa_3n {cs : List Int32} {f op pos : Nat} : ypa cs (f + 1) 3 none op pos = (none, pos) := by
  conv => lhs; unfold ypa
  rfl
theorem ypa_1s {cs : List Int32} {f op pos : Nat} {t : yT} : ypa cs (f + 1) 1 (some t) op pos = if ycat cs pos = nI 43 ∨ ycat cs pos = nI 45 then ypa cs f 1 ((ypa cs f 2 none op (pos + 1)).1.map (fun u => ymk (ycat cs pos) 0 t u)) op (ypa cs f 2 none op (pos + 1)).2 else (some t, pos) := by
  conv => lhs; unfold ypa
  rfl
theorem ypa_3s {cs : List Int32} {f op pos : Nat} {t : yT} : ypa cs (f + 1) 3 (some t) op pos = if ycat cs pos = nI 42 then ypa cs f 3 ((ypa cs f 4 none op (pos + 1)).1.map (fun u => ymk (ycat cs pos) 0 t u)) op (ypa cs f 4 none op (pos + 1)).2 else (some t, pos) := by
  conv => lhs; unfold ypa
  rfl
theorem zPR_tr {h h1 : zH} {p pos pos1 : Nat} {cs : List Int32} {ns e : List yN} {res : zR} {r : Option yT × Nat} (hr : zPR h1 p cs pos1 (ns ++ e) res r) (hf : zfr p (p + 12) h h1) (he : e.length + pos ≤ pos1) : zPR h p cs pos ns res r := by
  obtain ⟨h', e', x, e1, w1, w2, w3, w4, w5, w6⟩ := hr
  rw [List.append_assoc] at w1 w3 w6
  exact ⟨h', e ++ e', x, e1, w1, by rw [List.length_append]; omega, w3, w4, zfr_tr hf w5, w6⟩
section ZDU
variable {sv : Nat → Value} {p : Nat} {cs : List Int32}
/-- on from an operand: sums -/
theorem d_153l {f : Nat} (hA : yPA sv p cs f 2 2 154 5) (hL : yPL sv p cs f 1 3 153 5) : yPL sv p cs (f + 1) 1 3 153 5 := by
  intro op pos k h ns D x a s4 h4 hmu hD hop hp hw hn hl hk ha
  have h60 := hp.2.1.2.2.1
  have hmu2 : 400 * (7 - op) + 5 * (61 - pos) + 3 < f + 1 := hmu
  obtain ⟨d, rfl⟩ : ∃ d, D = d + 4 := ⟨D - 4, by omega⟩
  cases a with
  | none =>
    have hx : x = -1 := ha
    subst hx
    rw [ypa_1n]
    refine ⟨h, [], -1, ?_, by rw [List.append_nil]; exact hp, by rw [List.length_nil]; omega, by rw [List.append_nil]; exact hw, hl, zfr_rfl, rfl⟩
    by_cases g : k < 60
    · simp only [zs_153_0, zs_153_0n, zs_153_1, zs_153_2, zs_153_5, zs_153_6, zs_153_7, zs_153_8, zs_153_9, zs_153_11, zs_153_14, zs_153_15, zs_153_16, zs_153_19, zs_153_19n, zs_153_20, zs_153_22, zs_153_24, zs_153_27, zs_153_30, zs_153_30n, zs_153_31, zs_153_34, zs_153_36, zs_153_36n, zs_153_37, zs_153_39, zs_153_40, zs_153_40n, zs_153_41, zs_153_42, zs_153_45, zs_153_48, zs_153_49, zs_153_52, zs_153_55, zs_153_56, if_pos (nI_lt g (show 60 < 2 ^ 31 by decide)), nI_m1e, ↓reduceIte]
    · simp only [zs_153_0, zs_153_0n, zs_153_1, zs_153_2, zs_153_5, zs_153_6, zs_153_7, zs_153_8, zs_153_9, zs_153_11, zs_153_14, zs_153_15, zs_153_16, zs_153_19, zs_153_19n, zs_153_20, zs_153_22, zs_153_24, zs_153_27, zs_153_30, zs_153_30n, zs_153_31, zs_153_34, zs_153_36, zs_153_36n, zs_153_37, zs_153_39, zs_153_40, zs_153_40n, zs_153_41, zs_153_42, zs_153_45, zs_153_48, zs_153_49, zs_153_52, zs_153_55, zs_153_56, if_neg (nI_nlt (show 60 ≤ k by omega) (show k < 2 ^ 31 by omega))]
  | some t =>
    have hx := ha.1
    rw [ypa_1s]
    have e3 := d_163 (sv := sv) (d := d + 2) (a := nI 43) (b := nI 45) hp (by omega)
    by_cases h1 : ycat cs pos = nI 43 ∨ ycat cs pos = nI 45
    · rw [if_pos h1]
      have hb : (decide (ycat cs pos = nI 43) || decide (ycat cs pos = nI 45)) = true := by
        rcases h1 with g | g
        · rw [decide_eq_true g]; rfl
        · rw [decide_eq_true g, Bool.or_true]
      rw [hb] at e3
      have h2 : pos < cs.length := ycat_lt (fun h3 => by
        rcases h1 with g | g
        · exact y32.1 (h3.symm.trans g)
        · exact y32.2.1 (h3.symm.trans g))
      obtain ⟨h1', e4, w4, f4⟩ := d_160 (sv := sv) (d := d + 2) hp (by omega)
      have m1 : ymu 2 op (pos + 1) < f := by
        show 400 * (7 - op) + 5 * (61 - (pos + 1)) + 2 < f
        omega
      obtain ⟨h2', e, y, e5, w5, w6, w7, w8, f5, w9⟩ := hA op (pos + 1) h1' ns (d + 4) m1 hD hop w4 hw (by omega) (by omega)
      have g1 : nI k < nI 60 := nI_lt (by omega) (by decide)
      have e0 : zrun zP sv (zcall zP sv (d + 4)) 153 8 [.val (.ref p), .val (.int (nI op)), .val (.int x), .val (.int (nI k)), s4] [] h = zbk (zcall zP sv (d + 4) 155 [.ref p, .int (ycat cs pos), .int x, .int y] h2') (fun v h' => zrun zP sv (zcall zP sv (d + 4)) 153 48 [.val (.ref p), .val (.int (nI op)), .val (.int x), .val (.int (nI k)), .val (.int (ycat cs pos))] (v.toList ++ []) h') (fun E h' => some (.inr E, h')) := by
        simp (disch := first | exact h4 | exact znw_i) only [zs_153_0, zs_153_0n, zs_153_1, zs_153_2, zs_153_5, zs_153_6, zs_153_7, zs_153_8, zs_153_9, zs_153_11, zs_153_14, zs_153_15, zs_153_16, zs_153_19, zs_153_19n, zs_153_20, zs_153_22, zs_153_24, zs_153_27, zs_153_30, zs_153_30n, zs_153_31, zs_153_34, zs_153_36, zs_153_36n, zs_153_37, zs_153_39, zs_153_40, zs_153_40n, zs_153_41, zs_153_42, zs_153_45, zs_153_49, zs_153_52, zs_153_55, zs_153_56, if_pos g1, if_neg hx, zPar_rc hp, e3, yb_t, nI_1e0, ↓reduceIte, e4, zPar_rc w4, e5, zPar_rc w5, zbk_v, zts_s]
      rw [e0]
      have hlen : (ns ++ e).length = ns.length + e.length := List.length_append
      cases hr : (ypa cs f 2 none op (pos + 1)).1 with
      | none =>
        rw [hr] at w9
        have hy : y = -1 := w9
        subst hy
        rw [d_155n w5, zbk_v, zts_s, zs_153_48 rfl, zs_153_49, zs_153_52, nI_1']
        have q := hL op (ypa cs f 2 none op (pos + 1)).2 (k + 1) h2' (ns ++ e) (d + 4) (-1) none (.val (.int (ycat cs pos))) rfl (by unfold ymu; omega) (by omega) hop w5 w7 (by omega) w8 (by omega) rfl
        exact zPR_tr q (zfr_tr f4 f5) (by omega)
      | some u =>
        rw [hr] at w9
        obtain ⟨h3', e6, w10, f6⟩ := d_155 (sv := sv) (d := d) (k := ycat cs pos) (x := x) (y := y) w5 (by omega) w9.1
        rw [e6, zbk_v, zts_s, zs_153_48 rfl, zs_153_49, zs_153_52, nI_1']
        have cx : ych (ns ++ e).length x := ych_mono ha.2.1 (by omega)
        have z1 := ywf_snoc (nd := (ycat cs pos, 0, x, y)) w7 cx w9.2.1 (by omega)
        rw [List.append_assoc] at w10 z1
        have t1 : yis1 (ns ++ (e ++ [(ycat cs pos, 0, x, y)])) (nI (ns ++ e).length) (some (ymk (ycat cs pos) 0 t u)) := by
          rw [← List.append_assoc]
          exact ⟨nI_nm1 (by omega), ych_snoc, by rw [ygt_new (by omega), w9.2.2, ygt_pre (by omega) ha.2.1, ha.2.2]⟩
        have le1 : (e ++ [(ycat cs pos, 0, x, y)]).length = e.length + 1 := List.length_append
        have q := hL op (ypa cs f 2 none op (pos + 1)).2 (k + 1) h3' (ns ++ (e ++ [(ycat cs pos, 0, x, y)])) (d + 4) _ (some (ymk (ycat cs pos) 0 t u)) (.val (.int (ycat cs pos))) rfl (by unfold ymu; omega) (by omega) hop w10 z1 (by rw [List.length_append]; omega) w8 (by omega) t1
        exact zPR_tr q (zfr_tr (zfr_tr f4 f5) f6) (by omega)
    · rw [if_neg h1]
      have hb : (decide (ycat cs pos = nI 43) || decide (ycat cs pos = nI 45)) = false := by
        rw [decide_eq_false (fun g => h1 (Or.inl g)), decide_eq_false (fun g => h1 (Or.inr g))]; rfl
      rw [hb] at e3
      refine ⟨h, [], x, ?_, by rw [List.append_nil]; exact hp, by rw [List.length_nil]; omega, by rw [List.append_nil]; exact hw, hl, zfr_rfl, by rw [List.append_nil]; exact ha⟩
      by_cases g : k < 60
      · simp only [zs_153_0, zs_153_0n, zs_153_1, zs_153_2, zs_153_5, zs_153_6, zs_153_7, zs_153_8, zs_153_9, zs_153_11, zs_153_14, zs_153_15, zs_153_16, zs_153_19, zs_153_19n, zs_153_20, zs_153_22, zs_153_24, zs_153_27, zs_153_30, zs_153_30n, zs_153_31, zs_153_34, zs_153_36, zs_153_36n, zs_153_37, zs_153_39, zs_153_40, zs_153_40n, zs_153_41, zs_153_42, zs_153_45, zs_153_48, zs_153_49, zs_153_52, zs_153_55, zs_153_56, if_pos (nI_lt g (show 60 < 2 ^ 31 by decide)), if_neg hx, zPar_rc hp, e3, yb_f, ↓reduceIte, zbk_v, zts_s]
      · simp only [zs_153_0, zs_153_0n, zs_153_1, zs_153_2, zs_153_5, zs_153_6, zs_153_7, zs_153_8, zs_153_9, zs_153_11, zs_153_14, zs_153_15, zs_153_16, zs_153_19, zs_153_19n, zs_153_20, zs_153_22, zs_153_24, zs_153_27, zs_153_30, zs_153_30n, zs_153_31, zs_153_34, zs_153_36, zs_153_36n, zs_153_37, zs_153_39, zs_153_40, zs_153_40n, zs_153_41, zs_153_42, zs_153_45, zs_153_48, zs_153_49, zs_153_52, zs_153_55, zs_153_56, if_neg (nI_nlt (show 60 ≤ k by omega) (show k < 2 ^ 31 by omega))]
end ZDU
