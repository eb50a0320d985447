def yder (c : Int32) : yT → yT
  | .leaf => .leaf
  | .inner _ k v l r => if k = nI 110 then ymk (nI 110) 0 (yder c l) .leaf else if k = nI 43 ∨ k = nI 45 then ymk k 0 (yder c l) (yder c r) else if k = nI 42 then ymk (nI 43) 0 (ymk (nI 42) 0 (yder c l) r) (ymk (nI 42) 0 l (yder c r)) else ycn (if k = nI 118 ∧ v = c then nI 1 else 0)
def yins (c : Int32) (w : yT) : yT → yT
  | .leaf => .leaf
  | .inner _ k v l r => if k = nI 118 ∧ v = c then w else ymk k v (yins c w l) (yins c w r)
theorem yder_mk {c k v : Int32} {l r : yT} : yder c (ymk k v l r) = if k = nI 110 then ymk (nI 110) 0 (yder c l) .leaf else if k = nI 43 ∨ k = nI 45 then ymk k 0 (yder c l) (yder c r) else if k = nI 42 then ymk (nI 43) 0 (ymk (nI 42) 0 (yder c l) r) (ymk (nI 42) 0 l (yder c r)) else ycn (if k = nI 118 ∧ v = c then nI 1 else 0) := rfl
theorem yins_mk {c k v : Int32} {w l r : yT} : yins c w (ymk k v l r) = if k = nI 118 ∧ v = c then w else ymk k v (yins c w l) (yins c w r) := rfl
/-- all terms of a tree are of bounded depth -/
def yBd (B : Nat) (os : List yN) : Prop := ∀ (j : Nat) (t : yT), (ytm os)[j]? = some t → ydp t ≤ B
theorem yBd_snoc {B : Nat} {os : List yN} {nd : yN} (hb : yBd B os) (h : ydp (ymk nd.1 nd.2.1 (ygt (ytm os) nd.2.2.1) (ygt (ytm os) nd.2.2.2)) ≤ B) : yBd B (os ++ [nd]) := fun j t ht => by
  rw [ytm_snoc] at ht
  by_cases hj : j < (ytm os).length
  · rw [List.getElem?_append_left hj] at ht
    exact hb j t ht
  · rw [List.getElem?_append_right (by omega)] at ht
    have h2 := List.mem_of_getElem? ht
    rw [List.mem_singleton] at h2
    rw [h2]
    exact h
theorem yBd_x {B : Nat} {os : List yN} {x : Int32} (hb : yBd B os) (hl : os.length < 2 ^ 31) (hx : ych os.length x) : ydp (ygt (ytm os) x) ≤ B := by
  rcases hx with rfl | ⟨j, hj, rfl⟩
  · rw [ygt_n]; exact Nat.zero_le _
  · have e1 : (ytm os)[j]? = some ((ytm os)[j]'(by rw [ytm_l]; omega)) := List.getElem?_eq_getElem _
    rw [ygt_k (by omega), List.getD_eq_getElem?_getD, e1]
    exact hb j _ e1
theorem yBd_nil {B : Nat} : yBd B [] := fun j t h => by cases h
/-- what one step of building leaves: at most n nodes more -/
def yRn (h : zH) (o : Nat) (os : List yN) (n : Nat) (r : zR) (u : yT) : Prop := ∃ h' e x, r = some (.inl (some (.int x)), h') ∧ zTre h' o 124 (os ++ e) ∧ e.length ≤ n ∧ ywf (os ++ e) ∧ ych (os ++ e).length x ∧ ygt (ytm (os ++ e)) x = u ∧ zfr o (o + 9) h h' ∧ ∀ B, yBd B os → ydp u ≤ B → yBd B (os ++ e)
theorem yRn_add {h : zH} {o n : Nat} {os : List yN} {r : zR} {u : yT} {nd : yN} {h' : zH} (hn : 0 < n) (hr : r = some (.inl (some (.int (nI os.length))), h')) (ho : zTre h' o 124 (os ++ [nd])) (hf : zfr o (o + 9) h h') (hl : os.length < 124) (hw : ywf os) (h1 : ych os.length nd.2.2.1) (h2 : ych os.length nd.2.2.2) (hu : ymk nd.1 nd.2.1 (ygt (ytm os) nd.2.2.1) (ygt (ytm os) nd.2.2.2) = u) : yRn h o os n r u := ⟨h', [nd], _, hr, ho, hn, ywf_snoc hw h1 h2 (by omega), ych_snoc, by rw [ygt_new (by omega), hu], hf, fun B hb hB => yBd_snoc hb (by rw [hu]; exact hB)⟩
section ZDQ
variable {sv : Nat → Value} {d : Nat} {h : zH}
theorem d_91u {φ : yT → yT} {ns os : List yN} {P : List Int32} {al i : Nat} {x : Int32} (hp : yP2 φ ns os P i) (hx : ych i x) (hi : i ≤ ns.length) (hl : ns.length < 2 ^ 31) (h0 : φ .leaf = .leaf) : ∃ y, (∀ h d, zAl h al P → zcall zP sv (d + 2) 91 [.ref al, .int x] h = some (.inl (some (.int y)), h)) ∧ ych os.length y ∧ ygt (ytm os) y = φ (ygt (ytm ns) x) := by
  rcases hx with rfl | ⟨j, hj, rfl⟩
  · refine ⟨-1, fun h d ha => ?_, ych_n, by rw [ygt_n, ygt_n, h0]⟩
    simp only [zc_91, zs_91_0, zs_91_1, zs_91_2, zs_91_5, zs_91_6, zs_91_9, zs_91_9n, zs_91_10, zs_91_13, zs_91_14, zs_91_17, nI_m1e, ↓reduceIte]
  · have e1 : (ytm ns)[j]? = some ((ytm ns)[j]'(by rw [ytm_l]; omega)) := List.getElem?_eq_getElem _
    obtain ⟨y, p1, p2, p3⟩ := hp j _ hj e1
    refine ⟨y, fun h d ha => ?_, p2, ?_⟩
    · have g1 : ¬ nI j = -1 := nI_nm1 (by omega)
      simp only [zc_91, zs_91_0, zs_91_1, zs_91_2, zs_91_5, zs_91_6, zs_91_9, zs_91_9n, zs_91_10, zs_91_13, zs_91_14, zs_91_17, if_neg g1, ha.1, zrc_9, zf_9_0, zp_9_0, zp_9_0n, zRow_rc ha.2.1, d_165 ha.2.1, yg_e (show j < 2 ^ 31 by omega) p1, zbk_v, zts_s]
    · rw [p3, ygt_k (by omega), List.getD_eq_getElem?_getD, e1]
      rfl
theorem d_94 {f m o al i : Nat} {ns e0 : List yN} {P : List Int32} {nd : yN} {c : Int32} (hf : zTre h f m ns) (hwf : ywf ns) (hnd : ns[i]? = some nd) (ha : zAl h al P) (hp : yP2 (yder c) ns (ns ++ e0) P i) (ho : zTre h o 124 (ns ++ e0)) (hw : ywf (ns ++ e0)) (hl : (ns ++ e0).length + 3 ≤ 124) (hd : o + 9 ≤ al ∨ al + 3 ≤ o) : yRn h o (ns ++ e0) 3 (zcall zP sv (d + 4) 94 [.ref al, .ref f, .int (nI i), .int c, .ref o] h) (yder c (ymk nd.1 nd.2.1 (ygt (ytm ns) nd.2.2.1) (ygt (ytm ns) nd.2.2.2))) := by
  have hi := (List.getElem?_eq_some_iff.mp hnd).1
  have hc := hwf.2 i nd hnd
  have hlen : (ns ++ e0).length = ns.length + e0.length := List.length_append
  have k1 : ych (ns ++ e0).length nd.2.2.1 := ych_mono hc.1 (by omega)
  have k2 : ych (ns ++ e0).length nd.2.2.2 := ych_mono hc.2 (by omega)
  have q1 : ygt (ytm (ns ++ e0)) nd.2.2.1 = ygt (ytm ns) nd.2.2.1 := ygt_pre hwf.1 (ych_mono hc.1 (by omega))
  have q2 : ygt (ytm (ns ++ e0)) nd.2.2.2 = ygt (ytm ns) nd.2.2.2 := ygt_pre hwf.1 (ych_mono hc.2 (by omega))
  obtain ⟨x, exu, x1, x2⟩ := d_91u (sv := sv) (al := al) hp hc.1 (by omega) hwf.1 rfl
  obtain ⟨y, eyu, y1, y2⟩ := d_91u (sv := sv) (al := al) hp hc.2 (by omega) hwf.1 rfl
  have ex := exu h (d + 1) ha
  have ey := eyu h (d + 1) ha
  rw [yder_mk, ← x2, ← y2]
  by_cases h1 : nd.1 = nI 110
  · rw [if_pos h1]
    obtain ⟨h', e, w, f1⟩ := d_193 (sv := sv) (d := d) (x := x) ho (by omega)
    refine yRn_add (nd := (nI 110, 0, x, -1)) (by decide) ?_ w f1 (by omega) hw x1 ych_n (by rw [ygt_n])
    simp (disch := exact znw_u) only [zc_94, zs_94_0, zs_94_0n, zs_94_1, zs_94_2, zs_94_5, zs_94_7, zs_94_7n, zs_94_8, zs_94_9, zs_94_12, zs_94_14, zs_94_14n, zs_94_15, zs_94_16, zs_94_19, zs_94_21, zs_94_23, zs_94_25, zs_94_28, zs_94_28n, zs_94_30, zs_94_30n, zs_94_31, zs_94_33, zs_94_36, zs_94_39, zs_94_40, zs_94_42, zs_94_44, zs_94_47, zs_94_49, zs_94_51, zs_94_54, zs_94_54n, zs_94_56, zs_94_58, zs_94_58n, zs_94_59, zs_94_61, zs_94_64, zs_94_64n, zs_94_65, zs_94_67, zs_94_70, zs_94_73, zs_94_74, zs_94_76, zs_94_78, zs_94_81, zs_94_81n, zs_94_83, zs_94_85, zs_94_85n, zs_94_86, zs_94_88, zs_94_91, zs_94_93, zs_94_96, zs_94_98, zs_94_98n, zs_94_100, zs_94_102, zs_94_104, zs_94_104n, zs_94_105, zs_94_107, zs_94_110, zs_94_113, zs_94_115, zs_94_115n, zs_94_117, zs_94_119, zs_94_121, zs_94_123, zs_94_126, zs_94_127, zs_94_127n, zs_94_129, zs_94_129n, zs_94_130, zs_94_131, zs_94_132, zs_94_135, zs_94_138, zs_94_139, zs_94_142, zs_94_143, zs_94_146, zTre_rc hf, zTre_rc ho, zAl_rc ha, d_184 hf hnd, d_186 hf hnd, d_187 hf hnd, ex, ey, if_pos h1, e, zbk_v, zts_s]
  · rw [if_neg h1]
    by_cases h2 : nd.1 = nI 43
    · rw [if_pos (Or.inl h2)]
      obtain ⟨h', e, w, f1⟩ := d_194 (sv := sv) (d := d) (k := nd.1) (x := x) (y := y) ho (by omega)
      refine yRn_add (nd := (nd.1, 0, x, y)) (by decide) ?_ w f1 (by omega) hw x1 y1 rfl
      simp (disch := exact znw_u) only [zc_94, zs_94_0, zs_94_0n, zs_94_1, zs_94_2, zs_94_5, zs_94_7, zs_94_7n, zs_94_8, zs_94_9, zs_94_12, zs_94_14, zs_94_14n, zs_94_15, zs_94_16, zs_94_19, zs_94_21, zs_94_23, zs_94_25, zs_94_28, zs_94_28n, zs_94_30, zs_94_30n, zs_94_31, zs_94_33, zs_94_36, zs_94_39, zs_94_40, zs_94_42, zs_94_44, zs_94_47, zs_94_49, zs_94_51, zs_94_54, zs_94_54n, zs_94_56, zs_94_58, zs_94_58n, zs_94_59, zs_94_61, zs_94_64, zs_94_64n, zs_94_65, zs_94_67, zs_94_70, zs_94_73, zs_94_74, zs_94_76, zs_94_78, zs_94_81, zs_94_81n, zs_94_83, zs_94_85, zs_94_85n, zs_94_86, zs_94_88, zs_94_91, zs_94_93, zs_94_96, zs_94_98, zs_94_98n, zs_94_100, zs_94_102, zs_94_104, zs_94_104n, zs_94_105, zs_94_107, zs_94_110, zs_94_113, zs_94_115, zs_94_115n, zs_94_117, zs_94_119, zs_94_121, zs_94_123, zs_94_126, zs_94_127, zs_94_127n, zs_94_129, zs_94_129n, zs_94_130, zs_94_131, zs_94_132, zs_94_135, zs_94_138, zs_94_139, zs_94_142, zs_94_143, zs_94_146, zTre_rc hf, zTre_rc ho, zAl_rc ha, d_184 hf hnd, d_186 hf hnd, d_187 hf hnd, ex, ey, if_neg h1, if_pos h2, e, zbk_v, zts_s]
    · by_cases h3 : nd.1 = nI 45
      · rw [if_pos (Or.inr h3)]
        obtain ⟨h', e, w, f1⟩ := d_194 (sv := sv) (d := d) (k := nd.1) (x := x) (y := y) ho (by omega)
        refine yRn_add (nd := (nd.1, 0, x, y)) (by decide) ?_ w f1 (by omega) hw x1 y1 rfl
        simp (disch := exact znw_u) only [zc_94, zs_94_0, zs_94_0n, zs_94_1, zs_94_2, zs_94_5, zs_94_7, zs_94_7n, zs_94_8, zs_94_9, zs_94_12, zs_94_14, zs_94_14n, zs_94_15, zs_94_16, zs_94_19, zs_94_21, zs_94_23, zs_94_25, zs_94_28, zs_94_28n, zs_94_30, zs_94_30n, zs_94_31, zs_94_33, zs_94_36, zs_94_39, zs_94_40, zs_94_42, zs_94_44, zs_94_47, zs_94_49, zs_94_51, zs_94_54, zs_94_54n, zs_94_56, zs_94_58, zs_94_58n, zs_94_59, zs_94_61, zs_94_64, zs_94_64n, zs_94_65, zs_94_67, zs_94_70, zs_94_73, zs_94_74, zs_94_76, zs_94_78, zs_94_81, zs_94_81n, zs_94_83, zs_94_85, zs_94_85n, zs_94_86, zs_94_88, zs_94_91, zs_94_93, zs_94_96, zs_94_98, zs_94_98n, zs_94_100, zs_94_102, zs_94_104, zs_94_104n, zs_94_105, zs_94_107, zs_94_110, zs_94_113, zs_94_115, zs_94_115n, zs_94_117, zs_94_119, zs_94_121, zs_94_123, zs_94_126, zs_94_127, zs_94_127n, zs_94_129, zs_94_129n, zs_94_130, zs_94_131, zs_94_132, zs_94_135, zs_94_138, zs_94_139, zs_94_142, zs_94_143, zs_94_146, zTre_rc hf, zTre_rc ho, zAl_rc ha, d_184 hf hnd, d_186 hf hnd, d_187 hf hnd, ex, ey, if_neg h1, if_neg h2, if_pos h3, e, zbk_v, zts_s]
      · rw [if_neg (fun g => g.elim h2 h3)]
        by_cases h4 : nd.1 = nI 42
        · rw [if_pos h4]
          obtain ⟨ha1, e1, w1, f1⟩ := d_194 (sv := sv) (d := d) (k := nI 42) (x := x) (y := nd.2.2.2) ho (by omega)
          have l1 : (ns ++ e0 ++ [(nI 42, 0, x, nd.2.2.2)]).length = (ns ++ e0).length + 1 := List.length_append
          have z1 := ywf_snoc (nd := (nI 42, 0, x, nd.2.2.2)) hw x1 k2 (by omega)
          have ey1 := eyu ha1 (d + 1) (zAl_fr ha f1 (by omega))
          obtain ⟨ha2, e2, w2, f2⟩ := d_194 (sv := sv) (d := d) (k := nI 42) (x := nd.2.2.1) (y := y) w1 (by omega)
          rw [l1] at e2
          have l2 : (ns ++ e0 ++ [(nI 42, 0, x, nd.2.2.2)] ++ [(nI 42, 0, nd.2.2.1, y)]).length = (ns ++ e0).length + 2 := by rw [List.length_append, l1]; rfl
          have z2 := ywf_snoc (nd := (nI 42, 0, nd.2.2.1, y)) z1 (ych_mono k1 (by omega)) (ych_mono y1 (by omega)) (by omega)
          obtain ⟨ha3, e3, w3, f3⟩ := d_194 (sv := sv) (d := d) (k := nI 43) (x := nI (ns ++ e0).length) (y := nI ((ns ++ e0).length + 1)) w2 (by omega)
          rw [l2] at e3
          have z3 := ywf_snoc (nd := (nI 43, 0, nI (ns ++ e0).length, nI ((ns ++ e0).length + 1))) z2 (Or.inr ⟨_, by omega, rfl⟩) (Or.inr ⟨_, by omega, rfl⟩) (by omega)
          have l3 : (ns ++ e0 ++ [(nI 42, 0, x, nd.2.2.2)] ++ [(nI 42, 0, nd.2.2.1, y)] ++ [(nI 43, 0, nI (ns ++ e0).length, nI ((ns ++ e0).length + 1))]).length = (ns ++ e0).length + 3 := by rw [List.length_append, l2]; rfl
          have a1 : ns ++ e0 ++ [(nI 42, 0, x, nd.2.2.2)] ++ [(nI 42, 0, nd.2.2.1, y)] ++ [(nI 43, 0, nI (ns ++ e0).length, nI ((ns ++ e0).length + 1))] = ns ++ e0 ++ [(nI 42, 0, x, nd.2.2.2), (nI 42, 0, nd.2.2.1, y), (nI 43, 0, nI (ns ++ e0).length, nI ((ns ++ e0).length + 1))] := by rw [List.append_assoc, List.append_assoc]; rfl
          have t1 : ygt (ytm (ns ++ e0 ++ [(nI 42, 0, x, nd.2.2.2)] ++ [(nI 42, 0, nd.2.2.1, y)])) (nI (ns ++ e0).length) = ymk (nI 42) 0 (ygt (ytm (ns ++ e0)) x) (ygt (ytm (ns ++ e0)) nd.2.2.2) := by
            rw [ygt_pre (by omega) (Or.inr ⟨_, by omega, rfl⟩), ygt_new (by omega)]
          have t2 : ygt (ytm (ns ++ e0 ++ [(nI 42, 0, x, nd.2.2.2)] ++ [(nI 42, 0, nd.2.2.1, y)])) (nI ((ns ++ e0).length + 1)) = ymk (nI 42) 0 (ygt (ytm (ns ++ e0)) nd.2.2.1) (ygt (ytm (ns ++ e0)) y) := by
            rw [← l1, ygt_new (by omega), ygt_pre (by omega) k1, ygt_pre (by omega) y1]
          refine ⟨ha3, [(nI 42, 0, x, nd.2.2.2), (nI 42, 0, nd.2.2.1, y), (nI 43, 0, nI (ns ++ e0).length, nI ((ns ++ e0).length + 1))], nI ((ns ++ e0).length + 2), ?_, by rw [← a1]; exact w3, Nat.le_refl _, by rw [← a1]; exact z3, by rw [← a1, l3]; exact Or.inr ⟨_, by omega, rfl⟩, ?_, zfr_tr (zfr_tr f1 f2) f3, fun B hb hB => ?_⟩
          · simp (disch := exact znw_u) only [zc_94, zs_94_0, zs_94_0n, zs_94_1, zs_94_2, zs_94_5, zs_94_7, zs_94_7n, zs_94_8, zs_94_9, zs_94_12, zs_94_14, zs_94_14n, zs_94_15, zs_94_16, zs_94_19, zs_94_21, zs_94_23, zs_94_25, zs_94_28, zs_94_28n, zs_94_30, zs_94_30n, zs_94_31, zs_94_33, zs_94_36, zs_94_39, zs_94_40, zs_94_42, zs_94_44, zs_94_47, zs_94_49, zs_94_51, zs_94_54, zs_94_54n, zs_94_56, zs_94_58, zs_94_58n, zs_94_59, zs_94_61, zs_94_64, zs_94_64n, zs_94_65, zs_94_67, zs_94_70, zs_94_73, zs_94_74, zs_94_76, zs_94_78, zs_94_81, zs_94_81n, zs_94_83, zs_94_85, zs_94_85n, zs_94_86, zs_94_88, zs_94_91, zs_94_93, zs_94_96, zs_94_98, zs_94_98n, zs_94_100, zs_94_102, zs_94_104, zs_94_104n, zs_94_105, zs_94_107, zs_94_110, zs_94_113, zs_94_115, zs_94_115n, zs_94_117, zs_94_119, zs_94_121, zs_94_123, zs_94_126, zs_94_127, zs_94_127n, zs_94_129, zs_94_129n, zs_94_130, zs_94_131, zs_94_132, zs_94_135, zs_94_138, zs_94_139, zs_94_142, zs_94_143, zs_94_146, zTre_rc hf, zTre_rc ho, zAl_rc ha, d_184 hf hnd, d_186 hf hnd, d_187 hf hnd, ex, ey, if_neg h1, if_neg h2, if_neg h3, if_pos h4, e1, zAl_rc (zAl_fr ha f1 (by omega)), ey1, zTre_rc w1, e2, zTre_rc w2, e3, zbk_v, zts_s]
          · rw [← a1, ← l2, ygt_new (by omega)]
            show ymk (nI 43) 0 (ygt _ (nI (ns ++ e0).length)) (ygt _ (nI ((ns ++ e0).length + 1))) = _
            rw [t1, t2, q1, q2]
          · rw [ydp_mk, ydp_mk, ydp_mk] at hB
            rw [← a1]
            refine yBd_snoc (yBd_snoc (yBd_snoc hb ?_) ?_) ?_
            · show ydp (ymk (nI 42) 0 (ygt (ytm (ns ++ e0)) x) (ygt (ytm (ns ++ e0)) nd.2.2.2)) ≤ B
              rw [q2, ydp_mk]
              omega
            · show ydp (ymk (nI 42) 0 (ygt _ nd.2.2.1) (ygt _ y)) ≤ B
              rw [ygt_pre (by omega) k1, ygt_pre (by omega) y1, q1, ydp_mk]
              omega
            · show ydp (ymk (nI 43) 0 (ygt _ (nI (ns ++ e0).length)) (ygt _ (nI ((ns ++ e0).length + 1)))) ≤ B
              rw [t1, t2, q1, q2, ydp_mk, ydp_mk, ydp_mk]
              omega
        · rw [if_neg h4]
          obtain ⟨h', e, w, f1⟩ := d_192 (sv := sv) (d := d) (x := if nd.1 = nI 118 ∧ nd.2.1 = c then nI 1 else 0) ho (by omega)
          refine yRn_add (nd := (nI 99, (if nd.1 = nI 118 ∧ nd.2.1 = c then nI 1 else 0), -1, -1)) (by decide) ?_ w f1 (by omega) hw ych_n ych_n (by rw [ygt_n]; rfl)
          have e8 := d_188 (sv := sv) (d := d) (c := c) hf hnd
          by_cases h5 : nd.1 = nI 118 ∧ nd.2.1 = c
          · rw [if_pos h5] at e e8
            simp (disch := exact znw_u) only [zc_94, zs_94_0, zs_94_0n, zs_94_1, zs_94_2, zs_94_5, zs_94_7, zs_94_7n, zs_94_8, zs_94_9, zs_94_12, zs_94_14, zs_94_14n, zs_94_15, zs_94_16, zs_94_19, zs_94_21, zs_94_23, zs_94_25, zs_94_28, zs_94_28n, zs_94_30, zs_94_30n, zs_94_31, zs_94_33, zs_94_36, zs_94_39, zs_94_40, zs_94_42, zs_94_44, zs_94_47, zs_94_49, zs_94_51, zs_94_54, zs_94_54n, zs_94_56, zs_94_58, zs_94_58n, zs_94_59, zs_94_61, zs_94_64, zs_94_64n, zs_94_65, zs_94_67, zs_94_70, zs_94_73, zs_94_74, zs_94_76, zs_94_78, zs_94_81, zs_94_81n, zs_94_83, zs_94_85, zs_94_85n, zs_94_86, zs_94_88, zs_94_91, zs_94_93, zs_94_96, zs_94_98, zs_94_98n, zs_94_100, zs_94_102, zs_94_104, zs_94_104n, zs_94_105, zs_94_107, zs_94_110, zs_94_113, zs_94_115, zs_94_115n, zs_94_117, zs_94_119, zs_94_121, zs_94_123, zs_94_126, zs_94_127, zs_94_127n, zs_94_129, zs_94_129n, zs_94_130, zs_94_131, zs_94_132, zs_94_135, zs_94_138, zs_94_139, zs_94_142, zs_94_143, zs_94_146, zTre_rc hf, zTre_rc ho, zAl_rc ha, d_184 hf hnd, d_186 hf hnd, d_187 hf hnd, ex, ey, if_neg h1, if_neg h2, if_neg h3, if_neg h4, e8, e, nI_1e0, zbk_v, zts_s, ↓reduceIte]
          · rw [if_neg h5] at e e8
            simp (disch := exact znw_u) only [zc_94, zs_94_0, zs_94_0n, zs_94_1, zs_94_2, zs_94_5, zs_94_7, zs_94_7n, zs_94_8, zs_94_9, zs_94_12, zs_94_14, zs_94_14n, zs_94_15, zs_94_16, zs_94_19, zs_94_21, zs_94_23, zs_94_25, zs_94_28, zs_94_28n, zs_94_30, zs_94_30n, zs_94_31, zs_94_33, zs_94_36, zs_94_39, zs_94_40, zs_94_42, zs_94_44, zs_94_47, zs_94_49, zs_94_51, zs_94_54, zs_94_54n, zs_94_56, zs_94_58, zs_94_58n, zs_94_59, zs_94_61, zs_94_64, zs_94_64n, zs_94_65, zs_94_67, zs_94_70, zs_94_73, zs_94_74, zs_94_76, zs_94_78, zs_94_81, zs_94_81n, zs_94_83, zs_94_85, zs_94_85n, zs_94_86, zs_94_88, zs_94_91, zs_94_93, zs_94_96, zs_94_98, zs_94_98n, zs_94_100, zs_94_102, zs_94_104, zs_94_104n, zs_94_105, zs_94_107, zs_94_110, zs_94_113, zs_94_115, zs_94_115n, zs_94_117, zs_94_119, zs_94_121, zs_94_123, zs_94_126, zs_94_127, zs_94_127n, zs_94_129, zs_94_129n, zs_94_130, zs_94_131, zs_94_132, zs_94_135, zs_94_138, zs_94_139, zs_94_142, zs_94_143, zs_94_146, zTre_rc hf, zTre_rc ho, zAl_rc ha, d_184 hf hnd, d_186 hf hnd, d_187 hf hnd, ex, ey, if_neg h1, if_neg h2, if_neg h3, if_neg h4, e8, e, zbk_v, zts_s, ↓reduceIte]
end ZDQ
