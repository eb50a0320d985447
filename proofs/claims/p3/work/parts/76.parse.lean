/-- the text's grammar: what is read (0 a sum, 1 on from a sum's operand, 2 a product, 3 on from its operand, 4 a factor), with fuel; the term or none, and the place reached -/
def yng (cs : List Int32) : Nat → Nat → Nat
  | _, 0 => 0
  | pos, k + 1 => if ycat cs pos = nI 45 then yng cs (pos + 1) k + 1 else 0
def ywr : Nat → yT → yT
  | 0, t => t
  | n + 1, t => ywr n (ymk (nI 110) 0 t .leaf)
def ylet (c : Int32) : Bool := decide (¬ c < nI 97) && decide (¬ nI 102 < c)
def ynum2 (cs : List Int32) (p : Nat) : Option yT × Nat := if yisd (ycat cs (p + 1)) = true then (some (ycn (nI 10 * (ycat cs p - nI 48) + (ycat cs (p + 1) - nI 48))), p + 2) else (some (ycn (ycat cs p - nI 48)), p + 1)
def ypa (cs : List Int32) : Nat → Nat → Option yT → Nat → Nat → Option yT × Nat
  | 0, _, _, _, pos => (none, pos)
  | f + 1, m, a, op, pos =>
    if m = 0 then ypa cs f 1 (ypa cs f 2 none op pos).1 op (ypa cs f 2 none op pos).2
    else if m = 1 then (match a with
      | none => (none, pos)
      | some t => if ycat cs pos = nI 43 ∨ ycat cs pos = nI 45 then ypa cs f 1 ((ypa cs f 2 none op (pos + 1)).1.map (fun u => ymk (ycat cs pos) 0 t u)) op (ypa cs f 2 none op (pos + 1)).2 else (some t, pos))
    else if m = 2 then ypa cs f 3 (ypa cs f 4 none op pos).1 op (ypa cs f 4 none op pos).2
    else if m = 3 then (match a with
      | none => (none, pos)
      | some t => if ycat cs pos = nI 42 then ypa cs f 3 ((ypa cs f 4 none op (pos + 1)).1.map (fun u => ymk (ycat cs pos) 0 t u)) op (ypa cs f 4 none op (pos + 1)).2 else (some t, pos))
    else
      let n := yng cs pos 6
      let p := pos + n
      let r : Option yT × Nat := if ycat cs p = nI 40 ∧ op < 6 then (if (ypa cs f 0 none (op + 1) (p + 1)).1.isSome = true ∧ ycat cs (ypa cs f 0 none (op + 1) (p + 1)).2 = nI 41 then ((ypa cs f 0 none (op + 1) (p + 1)).1, (ypa cs f 0 none (op + 1) (p + 1)).2 + 1) else (none, (ypa cs f 0 none (op + 1) (p + 1)).2))
        else if ylet (ycat cs p) = true then (some (ymk (nI 118) (ycat cs p) .leaf .leaf), p + 1)
        else if yisd (ycat cs p) = true then ynum2 cs p else (none, p)
      (r.1.map (ywr n), r.2)
/-- an index stands for a term, or is -1 for none -/
def yis1 (ns : List yN) (x : Int32) : Option yT → Prop
  | none => x = -1
  | some t => ¬ x = -1 ∧ ych ns.length x ∧ ygt (ytm ns) x = t
def zPR (h : zH) (p : Nat) (cs : List Int32) (pos : Nat) (ns : List yN) (res : zR) (r : Option yT × Nat) : Prop := ∃ h' e x, res = some (.inl (some (.int x)), h') ∧ zPar h' p cs r.2 (ns ++ e) ∧ e.length + pos ≤ r.2 ∧ ywf (ns ++ e) ∧ r.2 ≤ cs.length ∧ zfr p (p + 12) h h' ∧ yis1 (ns ++ e) x r.1
theorem ycat_ge {cs : List Int32} {i : Nat} (h : cs.length ≤ i) : ycat cs i = nI 32 := by
  unfold ycat
  rw [List.getD_eq_getElem?_getD, List.getElem?_eq_none (by omega)]; rfl
theorem ycat_lt {cs : List Int32} {i : Nat} (h : ¬ ycat cs i = nI 32) : i < cs.length := by
  by_cases h1 : i < cs.length
  · exact h1
  · exact absurd (ycat_ge (by omega)) h
theorem y32 : ¬ (nI 32 : Int32) = nI 43 ∧ ¬ (nI 32 : Int32) = nI 45 ∧ ¬ (nI 32 : Int32) = nI 42 ∧ ¬ (nI 32 : Int32) = nI 40 ∧ ¬ (nI 32 : Int32) = nI 41 ∧ ylet (nI 32) = false ∧ yisd (nI 32) = false := by decide +kernel
theorem yng_le {cs : List Int32} : ∀ k pos, yng cs pos k ≤ k
  | 0, _ => Nat.le_refl _
  | k + 1, pos => by
    unfold yng
    split
    · have := yng_le (cs := cs) k (pos + 1)
      omega
    · exact Nat.zero_le _
theorem yng_len {cs : List Int32} : ∀ k pos, pos ≤ cs.length → pos + yng cs pos k ≤ cs.length
  | 0, _, h => h
  | k + 1, pos, h => by
    unfold yng
    split
    · rename_i h1
      have h2 : pos < cs.length := ycat_lt (fun h3 => y32.2.1 (h3.symm.trans h1))
      have := yng_len (cs := cs) k (pos + 1) h2
      omega
    · exact h
section ZDT
variable {sv : Nat → Value} {d : Nat} {p : Nat} {cs : List Int32} {ns : List yN}
theorem d_156a {op : Int32} {s3 s4 : Slot} : ∀ k n pos (h : zH), n + k = 6 → zPar h p cs pos ns → pos ≤ cs.length → ∃ h', zrun zP sv (zcall zP sv (d + 1)) 156 2 [.val (.ref p), .val (.int op), .val (.int (nI n)), s3, s4] [] h = zrun zP sv (zcall zP sv (d + 1)) 156 40 [.val (.ref p), .val (.int op), .val (.int (nI (n + yng cs pos k))), s3, s4] [] h' ∧ zPar h' p cs (pos + yng cs pos k) ns ∧ zfr p (p + 12) h h' := by
  intro k
  induction k with
  | zero =>
    intro n pos h hn hp hl
    refine ⟨h, ?_, hp, zfr_rfl⟩
    obtain rfl : n = 6 := by omega
    rw [zs_156_2, zs_156_3, zs_156_5, if_neg (nI_nlt (Nat.le_refl _) (by decide))]
    rfl
  | succ k ih =>
    intro n pos h hn hp hl
    have h0 := hp.1
    have h60 := hp.2.1.2.2.1
    unfold yng
    by_cases h1 : ycat cs pos = nI 45
    · have h2 : pos < cs.length := ycat_lt (fun h3 => y32.2.1 (h3.symm.trans h1))
      have w := zPar_pos (pos' := pos + 1) hp
      have f1 : zfr p (p + 12) h (zup h p (7, [.ref (p + 1), .ref (p + 3), .int (nI (pos + 1))])) := zfr_up (by omega) (by omega)
      obtain ⟨h', e, w2, f2⟩ := ih (n + 1) (pos + 1) _ (by omega) w h2
      rw [if_pos h1]
      refine ⟨h', ?_, by rw [show pos + (yng cs (pos + 1) k + 1) = pos + 1 + yng cs (pos + 1) k by omega]; exact w2, zfr_tr f1 f2⟩
      rw [zs_156_2, zs_156_3, zs_156_5, if_pos (nI_lt (by omega) (by decide))]
      simp only [zs_156_0, zs_156_1, zs_156_3, zs_156_5, zs_156_8, zs_156_8n, zs_156_9, zs_156_12, zs_156_12n, zs_156_13, zs_156_16, zs_156_19, zs_156_21, zs_156_24, zs_156_27, zs_156_27n, zs_156_28, zs_156_29, zs_156_32, zs_156_33, zs_156_34, zs_156_41, zs_156_42, zs_156_45, zs_156_46, zs_156_47, zs_156_49, zs_156_51, zs_156_52, zs_156_55, zs_156_56, zs_156_57, zs_156_60, zs_156_60n, zs_156_61, zs_156_64, zs_156_65, zs_156_68, zs_156_69, zs_156_72, zs_156_75, zs_156_76, h0, zrc_7, zf_7_0, zp_7_0, zp_7_0n, zf_7_1, zp_7_1, zp_7_1n, zf_7_2, zp_7_2, zInp_rc hp.2.1, d_141 hp.2.1 (show pos < 2 ^ 31 by omega), if_pos h1, nI_1', zbk_v, zts_s]
      rw [zs_156_37, e, show n + (yng cs (pos + 1) k + 1) = n + 1 + yng cs (pos + 1) k by omega]
    · rw [if_neg h1]
      refine ⟨h, ?_, hp, zfr_rfl⟩
      rw [zs_156_2, zs_156_3, zs_156_5, if_pos (nI_lt (by omega) (by decide))]
      simp only [zs_156_0, zs_156_1, zs_156_3, zs_156_5, zs_156_8, zs_156_8n, zs_156_9, zs_156_12, zs_156_12n, zs_156_13, zs_156_16, zs_156_19, zs_156_21, zs_156_24, zs_156_27, zs_156_27n, zs_156_28, zs_156_29, zs_156_32, zs_156_33, zs_156_34, zs_156_41, zs_156_42, zs_156_45, zs_156_46, zs_156_47, zs_156_49, zs_156_51, zs_156_52, zs_156_55, zs_156_56, zs_156_57, zs_156_60, zs_156_60n, zs_156_61, zs_156_64, zs_156_65, zs_156_68, zs_156_69, zs_156_72, zs_156_75, zs_156_76, h0, zrc_7, zf_7_0, zp_7_0, zp_7_0n, zf_7_1, zp_7_1, zp_7_1n, zf_7_2, zp_7_2, zInp_rc hp.2.1, d_141 hp.2.1 (show pos < 2 ^ 31 by omega), if_neg h1, zbk_v, zts_s, Nat.add_zero]
theorem d_156b {op : Int32} {n pos : Nat} (hn6 : n ≤ 6) : ∀ j k (h : zH) (e : List yN) (x : Int32) (t : yT), k + j = n → zPar h p cs pos (ns ++ e) → ywf (ns ++ e) → (ns ++ e).length + j ≤ 60 → yis1 (ns ++ e) x (some t) → ∃ h' e' x', zrun zP sv (zcall zP sv (d + 3)) 156 49 [.val (.ref p), .val (.int op), .val (.int (nI n)), .val (.int x), .val (.int (nI k))] [] h = some (.inl (some (.int x')), h') ∧ zPar h' p cs pos (ns ++ e') ∧ e'.length = e.length + j ∧ ywf (ns ++ e') ∧ zfr p (p + 12) h h' ∧ yis1 (ns ++ e') x' (some (ywr j t)) := by
  intro j
  induction j with
  | zero =>
    intro k h e x t hk hp hw hl hx
    obtain rfl : k = n := by omega
    have hl2 : k < 2 ^ 31 ∨ True := Or.inr trivial
    refine ⟨h, e, x, ?_, hp, rfl, hw, zfr_rfl, hx⟩
    rw [zs_156_49, zs_156_51, zs_156_52, if_neg Int32.lt_irrefl, zs_156_75, zs_156_76]
  | succ j ih =>
    intro k h e x t hk hp hw hl hx
    have h0 := hp.1
    have hlen : (ns ++ e).length = ns.length + e.length := List.length_append
    obtain ⟨h1, e1, w1, f1⟩ := d_193 (sv := sv) (d := d) (x := x) hp.2.2 (by omega)
    have p1 := zPar_tree hp f1 w1
    rw [List.append_assoc] at p1
    have z1 := ywf_snoc (nd := (nI 110, 0, x, -1)) hw hx.2.1 ych_n (by omega)
    have t1 : yis1 (ns ++ e ++ [(nI 110, 0, x, -1)]) (nI (ns ++ e).length) (some (ymk (nI 110) 0 t .leaf)) := ⟨nI_nm1 (by omega), ych_snoc, by rw [ygt_new (by omega), hx.2.2, ygt_n]⟩
    rw [List.append_assoc] at z1 t1
    obtain ⟨h', e', x', e2, p2, l2, z2, f2, t2⟩ := ih (k + 1) h1 (e ++ [(nI 110, 0, x, -1)]) (nI (ns ++ e).length) _ (by omega) p1 z1 (by rw [← List.append_assoc, List.length_append]; show (ns ++ e).length + 1 + j ≤ 60; omega) t1
    refine ⟨h', e', x', ?_, p2, by rw [l2, List.length_append]; show e.length + 1 + j = _; omega, z2, zfr_tr (zfr_mono f1 (by omega) (by omega)) f2, t2⟩
    have g1 : nI k < nI n := nI_lt (by omega) (by omega)
    rw [zs_156_49, zs_156_51, zs_156_52, if_pos g1]
    simp (disch := first | exact znw_u | exact znw_i) only [zs_156_0, zs_156_1, zs_156_2, zs_156_3, zs_156_5, zs_156_8, zs_156_8n, zs_156_9, zs_156_12, zs_156_12n, zs_156_13, zs_156_16, zs_156_19, zs_156_21, zs_156_24, zs_156_27, zs_156_27n, zs_156_28, zs_156_29, zs_156_32, zs_156_33, zs_156_34, zs_156_37, zs_156_40, zs_156_40n, zs_156_41, zs_156_42, zs_156_45, zs_156_46, zs_156_47, zs_156_51, zs_156_52, zs_156_55, zs_156_56, zs_156_57, zs_156_60, zs_156_60n, zs_156_61, zs_156_64, zs_156_65, zs_156_68, zs_156_69, zs_156_76, if_neg hx.1, h0, zrc_7, zf_7_0, zp_7_0, zp_7_0n, zf_7_1, zp_7_1, zp_7_1n, zf_7_2, zp_7_2, zTre_rc hp.2.2, e1, nI_1', zbk_v, zts_s]
    rw [zs_156_72, e2]
end ZDT
