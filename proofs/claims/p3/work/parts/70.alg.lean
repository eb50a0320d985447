/-- a term's root -/
def yk : yT → Int32
  | .leaf => 0
  | .inner _ k _ _ _ => k
def yv : yT → Int32
  | .leaf => 0
  | .inner _ _ v _ _ => v
def yl : yT → yT
  | .leaf => .leaf
  | .inner _ _ _ l _ => l
def yr : yT → yT
  | .leaf => .leaf
  | .inner _ _ _ _ r => r
def ycn (v : Int32) : yT := ymk (nI 99) v .leaf .leaf
def ynu (t : yT) (c : Int32) : Bool := decide (yk t = nI 99) && decide (yv t = c)
def ysn (a : yT) : yT := if yk a = nI 99 then ycn (-(yv a)) else if yk a = nI 110 then yl a else ymk (nI 110) 0 a .leaf
def ysu (a b : yT) : yT := if ynu a 0 = true then b else if ynu b 0 = true then a else ymk (nI 43) 0 a b
def ysd (a b : yT) : yT := if ynu b 0 = true then a else if ynu a 0 = true then (if yk b = nI 110 then yl b else ymk (nI 110) 0 b .leaf) else if yeq a b = true then ycn 0 else ymk (nI 45) 0 a b
def ysm (a b : yT) : yT := if ynu a 0 = true then ycn 0 else if ynu b 0 = true then ycn 0 else if ynu a (nI 1) = true then b else if ynu b (nI 1) = true then a else ymk (nI 42) 0 a b
def ysp (k : Int32) (a b : yT) : yT := if yk a = nI 99 ∧ yk b = nI 99 then ycn (yop k (yv a) (yv b)) else if k = nI 43 then ysu a b else if k = nI 45 then ysd a b else ysm a b
def ysim : yT → yT
  | .leaf => .leaf
  | .inner _ k v l r => if k = nI 110 then ysn (ysim l) else if yis k = true then ysp k (ysim l) (ysim r) else ymk k v .leaf .leaf
theorem ygt_new {os : List yN} {nd : yN} (hl : os.length < 2 ^ 31) : ygt (ytm (os ++ [nd])) (nI os.length) = ymk nd.1 nd.2.1 (ygt (ytm os) nd.2.2.1) (ygt (ytm os) nd.2.2.2) := by
  rw [ygt_k hl, List.getD_eq_getElem?_getD, ytm_snoc, List.getElem?_append_right (by rw [ytm_l]; exact Nat.le_refl _), ytm_l, Nat.sub_self]
  rfl
theorem ych_snoc {os : List yN} {nd : yN} : ych (os ++ [nd]).length (nI os.length) := Or.inr ⟨os.length, by rw [List.length_append]; exact Nat.lt_succ_self _, rfl⟩
theorem ych_n {i : Nat} : ych i (-1) := Or.inl rfl
section ZDM
variable {sv : Nat → Value} {d : Nat} {h : zH} {o m : Nat} {os : List yN} {x : Int32}
theorem d_184g (ho : zTre h o m os) (hw : ywf os) (hx : ych os.length x) : zcall zP sv (d + 2) 184 [.ref o, .int x] h = some (.inl (some (.int (yk (ygt (ytm os) x)))), h) := by
  rcases hx with rfl | ⟨j, hj, rfl⟩
  · rw [d_184n ho, ygt_n]; rfl
  · obtain ⟨nd, hnd⟩ := ynd_ex hj
    rw [d_184 ho hnd, ygt_at hw hnd]; rfl
theorem d_185g (ho : zTre h o m os) (hw : ywf os) (hx : ych os.length x) : zcall zP sv (d + 2) 185 [.ref o, .int x] h = some (.inl (some (.int (yv (ygt (ytm os) x)))), h) := by
  rcases hx with rfl | ⟨j, hj, rfl⟩
  · obtain ⟨K, N, L, R, h0, hr, _⟩ := ho
    rw [zc_185, zs_185_0, zs_185_1, h0, zTc, zf_6_1, zs_185_4, zs_185_5, zRow_rc hr.2.1, d_165 hr.2.1, zbk_v, zts_s, zs_185_8, yg_n, ygt_n]
    rfl
  · obtain ⟨nd, hnd⟩ := ynd_ex hj
    rw [d_185 ho hnd, ygt_at hw hnd]; rfl
theorem d_186g (ho : zTre h o m os) (hw : ywf os) (hx : ych os.length x) (hk : yk (ygt (ytm os) x) = nI 110) : ∃ y, zcall zP sv (d + 2) 186 [.ref o, .int x] h = some (.inl (some (.int y)), h) ∧ ych os.length y ∧ ygt (ytm os) y = yl (ygt (ytm os) x) := by
  rcases hx with rfl | ⟨j, hj, rfl⟩
  · rw [ygt_n] at hk
    exact absurd hk (by decide +kernel)
  · obtain ⟨nd, hnd⟩ := ynd_ex hj
    exact ⟨nd.2.2.1, d_186 ho hnd, (ych_lt hw hnd).1, by rw [ygt_at hw hnd]; rfl⟩
theorem d_189g {c : Int32} (ho : zTre h o m os) (hw : ywf os) (hx : ych os.length x) : zcall zP sv (d + 3) 189 [.ref o, .int x, .int c] h = some (.inl (some (.int (yb (ynu (ygt (ytm os) x) c)))), h) := by
  unfold ynu
  rw [zc_189, zs_189_0, zs_189_1, zs_189_2, zTre_rc ho, d_184g ho hw hx, zbk_v, zts_s, zs_189_5, zs_189_7]
  by_cases h1 : yk (ygt (ytm os) x) = nI 99
  · rw [if_pos h1, zs_189_10, zs_189_11, zs_189_12, zTre_rc ho, d_185g ho hw hx, zbk_v, zts_s, zs_189_15, zs_189_16, decide_eq_true h1]
    by_cases h2 : yv (ygt (ytm os) x) = c
    · rw [if_pos h2, zs_189_19, zs_189_20, zs_189_24, decide_eq_true h2, zty_51, zgd_t]; rfl
    · rw [if_neg h2, zs_189_23, zs_189_24, decide_eq_false h2, zty_50, zgd_t]; rfl
  · rw [if_neg h1, zs_189_23, zs_189_24, decide_eq_false h1, zty_50, zgd_t]; rfl
end ZDM
/-- what one step of building leaves: at most one node more -/
def yRes (h : zH) (o : Nat) (os : List yN) (r : zR) (u : yT) : Prop := ∃ h' os' x, r = some (.inl (some (.int x)), h') ∧ zTre h' o 124 os' ∧ (∃ e, os' = os ++ e ∧ e.length ≤ 1) ∧ ywf os' ∧ ych os'.length x ∧ ygt (ytm os') x = u ∧ zfr o (o + 9) h h'
theorem yRes_same {h : zH} {o : Nat} {os : List yN} {r : zR} {u : yT} {x : Int32} (hr : r = some (.inl (some (.int x)), h)) (ho : zTre h o 124 os) (hw : ywf os) (hx : ych os.length x) (hu : ygt (ytm os) x = u) : yRes h o os r u := ⟨h, os, x, hr, ho, ⟨[], (List.append_nil _).symm, by decide⟩, hw, hx, hu, zfr_rfl⟩
theorem yRes_add {h : zH} {o : Nat} {os : List yN} {r : zR} {u : yT} {nd : yN} {h' : zH} (hr : r = some (.inl (some (.int (nI os.length))), h')) (ho : zTre h' o 124 (os ++ [nd])) (hf : zfr o (o + 9) h h') (hl : os.length < 124) (hw : ywf os) (h1 : ych os.length nd.2.2.1) (h2 : ych os.length nd.2.2.2) (hu : ymk nd.1 nd.2.1 (ygt (ytm os) nd.2.2.1) (ygt (ytm os) nd.2.2.2) = u) : yRes h o os r u := ⟨h', os ++ [nd], _, hr, ho, ⟨[nd], rfl, Nat.le_refl _⟩, ywf_snoc hw h1 h2 (by omega), ych_snoc, by rw [ygt_new (by omega), hu], hf⟩
section ZDN
variable {sv : Nat → Value} {d : Nat} {h : zH} {o : Nat} {os : List yN} {x y : Int32}
theorem d_97 (ho : zTre h o 124 os) (hw : ywf os) (hl : os.length < 124) (hx : ych os.length x) : yRes h o os (zcall zP sv (d + 4) 97 [.int x, .ref o] h) (ysn (ygt (ytm os) x)) := by
  unfold ysn
  by_cases h1 : yk (ygt (ytm os) x) = nI 99
  · rw [if_pos h1]
    obtain ⟨h', e, w, f⟩ := d_192 (sv := sv) (d := d) (x := -(yv (ygt (ytm os) x))) ho hl
    refine yRes_add (nd := (nI 99, -(yv (ygt (ytm os) x)), -1, -1)) ?_ w f hl hw ych_n ych_n (by rw [ygt_n]; rfl)
    have e84 : yop (nI 110) (yv (ygt (ytm os) x)) 0 = -(yv (ygt (ytm os) x)) := by unfold yop; rw [if_pos rfl]
    simp only [zc_97, zs_97_0, zs_97_0n, zs_97_1, zs_97_2, zs_97_5, zs_97_7, zs_97_10, zs_97_10n, zs_97_11, zs_97_13, zs_97_13n, zs_97_14, zs_97_15, zs_97_18, zs_97_19, zs_97_22, zs_97_25, zs_97_26, zs_97_26n, zs_97_27, zs_97_28, zs_97_31, zs_97_33, zs_97_36, zs_97_36n, zs_97_37, zs_97_38, zs_97_41, zs_97_44, zs_97_44n, zs_97_45, zs_97_46, zs_97_49, zTre_rc ho, d_184g ho hw hx, d_185g ho hw hx, if_pos h1, d_84, e84, e, zbk_v, zts_s]
  · rw [if_neg h1]
    by_cases h2 : yk (ygt (ytm os) x) = nI 110
    · rw [if_pos h2]
      obtain ⟨z, e, w1, w2⟩ := d_186g (sv := sv) (d := d + 1) ho hw hx h2
      refine yRes_same ?_ ho hw w1 w2
      simp only [zc_97, zs_97_0, zs_97_0n, zs_97_1, zs_97_2, zs_97_5, zs_97_7, zs_97_10, zs_97_10n, zs_97_11, zs_97_13, zs_97_13n, zs_97_14, zs_97_15, zs_97_18, zs_97_19, zs_97_22, zs_97_25, zs_97_26, zs_97_26n, zs_97_27, zs_97_28, zs_97_31, zs_97_33, zs_97_36, zs_97_36n, zs_97_37, zs_97_38, zs_97_41, zs_97_44, zs_97_44n, zs_97_45, zs_97_46, zs_97_49, zTre_rc ho, d_184g ho hw hx, if_neg h1, if_pos h2, e, zbk_v, zts_s]
    · rw [if_neg h2]
      obtain ⟨h', e, w, f⟩ := d_193 (sv := sv) (d := d) (x := x) ho hl
      refine yRes_add (nd := (nI 110, 0, x, -1)) ?_ w f hl hw hx ych_n (by rw [ygt_n])
      simp only [zc_97, zs_97_0, zs_97_0n, zs_97_1, zs_97_2, zs_97_5, zs_97_7, zs_97_10, zs_97_10n, zs_97_11, zs_97_13, zs_97_13n, zs_97_14, zs_97_15, zs_97_18, zs_97_19, zs_97_22, zs_97_25, zs_97_26, zs_97_26n, zs_97_27, zs_97_28, zs_97_31, zs_97_33, zs_97_36, zs_97_36n, zs_97_37, zs_97_38, zs_97_41, zs_97_44, zs_97_44n, zs_97_45, zs_97_46, zs_97_49, zTre_rc ho, d_184g ho hw hx, if_neg h1, if_neg h2, e, zbk_v, zts_s]
theorem d_98 (ho : zTre h o 124 os) (hw : ywf os) (hl : os.length < 124) (hx : ych os.length x) (hy : ych os.length y) : yRes h o os (zcall zP sv (d + 4) 98 [.int x, .int y, .ref o] h) (ysu (ygt (ytm os) x) (ygt (ytm os) y)) := by
  unfold ysu
  cases h1 : ynu (ygt (ytm os) x) 0 with
  | true =>
    rw [if_pos rfl]
    refine yRes_same ?_ ho hw hy rfl
    simp only [zc_98, zs_98_0, zs_98_0n, zs_98_1, zs_98_2, zs_98_3, zs_98_6, zs_98_9, zs_98_10, zs_98_11, zs_98_11n, zs_98_12, zs_98_13, zs_98_14, zs_98_17, zs_98_20, zs_98_21, zs_98_24, zs_98_24n, zs_98_25, zs_98_27, zs_98_28, zs_98_29, zs_98_32, zTre_rc ho, d_189g ho hw hx, h1, yb_t, nI_1e0, zbk_v, zts_s, ↓reduceIte]
  | false =>
    rw [if_neg (by decide)]
    cases h2 : ynu (ygt (ytm os) y) 0 with
    | true =>
      rw [if_pos rfl]
      refine yRes_same ?_ ho hw hx rfl
      simp only [zc_98, zs_98_0, zs_98_0n, zs_98_1, zs_98_2, zs_98_3, zs_98_6, zs_98_9, zs_98_10, zs_98_11, zs_98_11n, zs_98_12, zs_98_13, zs_98_14, zs_98_17, zs_98_20, zs_98_21, zs_98_24, zs_98_24n, zs_98_25, zs_98_27, zs_98_28, zs_98_29, zs_98_32, zTre_rc ho, d_189g ho hw hx, d_189g ho hw hy, h1, h2, yb_t, yb_f, nI_1e0, zbk_v, zts_s, ↓reduceIte]
    | false =>
      rw [if_neg (by decide)]
      obtain ⟨h', e, w, f⟩ := d_194 (sv := sv) (d := d) (k := nI 43) (x := x) (y := y) ho hl
      refine yRes_add (nd := (nI 43, 0, x, y)) ?_ w f hl hw hx hy rfl
      simp only [zc_98, zs_98_0, zs_98_0n, zs_98_1, zs_98_2, zs_98_3, zs_98_6, zs_98_9, zs_98_10, zs_98_11, zs_98_11n, zs_98_12, zs_98_13, zs_98_14, zs_98_17, zs_98_20, zs_98_21, zs_98_24, zs_98_24n, zs_98_25, zs_98_27, zs_98_28, zs_98_29, zs_98_32, zTre_rc ho, d_189g ho hw hx, d_189g ho hw hy, h1, h2, yb_f, e, zbk_v, zts_s, ↓reduceIte]
theorem d_99 (ho : zTre h o 124 os) (hw : ywf os) (hl : os.length < 124) (hx : ych os.length x) (hy : ych os.length y) (hdp : ydp (ygt (ytm os) x) ≤ 40) : yRes h o os (zcall zP sv (d + 44) 99 [.int x, .int y, .ref o] h) (ysd (ygt (ytm os) x) (ygt (ytm os) y)) := by
  unfold ysd
  cases h1 : ynu (ygt (ytm os) y) 0 with
  | true =>
    rw [if_pos rfl]
    refine yRes_same ?_ ho hw hx rfl
    simp only [zc_99, zs_99_0, zs_99_0n, zs_99_1, zs_99_2, zs_99_3, zs_99_6, zs_99_9, zs_99_10, zs_99_11, zs_99_11n, zs_99_12, zs_99_13, zs_99_14, zs_99_17, zs_99_20, zs_99_20n, zs_99_21, zs_99_22, zs_99_25, zs_99_27, zs_99_30, zs_99_30n, zs_99_31, zs_99_32, zs_99_35, zs_99_38, zs_99_38n, zs_99_39, zs_99_40, zs_99_43, zs_99_44, zs_99_44n, zs_99_45, zs_99_46, zs_99_46n, zs_99_47, zs_99_48, zs_99_49, zs_99_52, zs_99_55, zs_99_55n, zs_99_56, zs_99_57, zs_99_60, zs_99_61, zs_99_61n, zs_99_62, zs_99_64, zs_99_65, zs_99_66, zs_99_69, zTre_rc ho, d_189g ho hw hy, h1, yb_t, nI_1e0, zbk_v, zts_s, ↓reduceIte]
  | false =>
    rw [if_neg (by decide)]
    cases h2 : ynu (ygt (ytm os) x) 0 with
    | true =>
      rw [if_pos rfl]
      by_cases h3 : yk (ygt (ytm os) y) = nI 110
      · rw [if_pos h3]
        obtain ⟨z, e, w1, w2⟩ := d_186g (sv := sv) (d := d + 41) ho hw hy h3
        refine yRes_same ?_ ho hw w1 w2
        simp only [zc_99, zs_99_0, zs_99_0n, zs_99_1, zs_99_2, zs_99_3, zs_99_6, zs_99_9, zs_99_10, zs_99_11, zs_99_11n, zs_99_12, zs_99_13, zs_99_14, zs_99_17, zs_99_20, zs_99_20n, zs_99_21, zs_99_22, zs_99_25, zs_99_27, zs_99_30, zs_99_30n, zs_99_31, zs_99_32, zs_99_35, zs_99_38, zs_99_38n, zs_99_39, zs_99_40, zs_99_43, zs_99_44, zs_99_44n, zs_99_45, zs_99_46, zs_99_46n, zs_99_47, zs_99_48, zs_99_49, zs_99_52, zs_99_55, zs_99_55n, zs_99_56, zs_99_57, zs_99_60, zs_99_61, zs_99_61n, zs_99_62, zs_99_64, zs_99_65, zs_99_66, zs_99_69, zTre_rc ho, d_189g ho hw hx, d_189g ho hw hy, h1, h2, yb_t, yb_f, nI_1e0, d_184g ho hw hy, if_pos h3, e, zbk_v, zts_s, ↓reduceIte]
      · rw [if_neg h3]
        obtain ⟨h', e, w, f⟩ := d_193 (sv := sv) (d := d + 40) (x := y) ho hl
        refine yRes_add (nd := (nI 110, 0, y, -1)) ?_ w f hl hw hy ych_n (by rw [ygt_n])
        simp only [zc_99, zs_99_0, zs_99_0n, zs_99_1, zs_99_2, zs_99_3, zs_99_6, zs_99_9, zs_99_10, zs_99_11, zs_99_11n, zs_99_12, zs_99_13, zs_99_14, zs_99_17, zs_99_20, zs_99_20n, zs_99_21, zs_99_22, zs_99_25, zs_99_27, zs_99_30, zs_99_30n, zs_99_31, zs_99_32, zs_99_35, zs_99_38, zs_99_38n, zs_99_39, zs_99_40, zs_99_43, zs_99_44, zs_99_44n, zs_99_45, zs_99_46, zs_99_46n, zs_99_47, zs_99_48, zs_99_49, zs_99_52, zs_99_55, zs_99_55n, zs_99_56, zs_99_57, zs_99_60, zs_99_61, zs_99_61n, zs_99_62, zs_99_64, zs_99_65, zs_99_66, zs_99_69, zTre_rc ho, d_189g ho hw hx, d_189g ho hw hy, h1, h2, yb_t, yb_f, nI_1e0, d_184g ho hw hy, if_neg h3, e, zbk_v, zts_s, ↓reduceIte]
    | false =>
      rw [if_neg (by decide)]
      have e5 := d_85 (sv := sv) hw hw ho ho (ygt (ytm os) x) (ygt (ytm os) y) x y (d + 43) 1 hx hy rfl rfl (by omega) (by omega)
      cases h4 : yeq (ygt (ytm os) x) (ygt (ytm os) y) with
      | true =>
        rw [h4] at e5
        rw [if_pos rfl]
        obtain ⟨h', e, w, f⟩ := d_192 (sv := sv) (d := d + 40) (x := 0) ho hl
        refine yRes_add (nd := (nI 99, 0, -1, -1)) ?_ w f hl hw ych_n ych_n (by rw [ygt_n]; rfl)
        simp only [zc_99, zs_99_0, zs_99_0n, zs_99_1, zs_99_2, zs_99_3, zs_99_6, zs_99_9, zs_99_10, zs_99_11, zs_99_11n, zs_99_12, zs_99_13, zs_99_14, zs_99_17, zs_99_20, zs_99_20n, zs_99_21, zs_99_22, zs_99_25, zs_99_27, zs_99_30, zs_99_30n, zs_99_31, zs_99_32, zs_99_35, zs_99_38, zs_99_38n, zs_99_39, zs_99_40, zs_99_43, zs_99_44, zs_99_44n, zs_99_45, zs_99_46, zs_99_46n, zs_99_47, zs_99_48, zs_99_49, zs_99_52, zs_99_55, zs_99_55n, zs_99_56, zs_99_57, zs_99_60, zs_99_61, zs_99_61n, zs_99_62, zs_99_64, zs_99_65, zs_99_66, zs_99_69, zTre_rc ho, d_189g ho hw hx, d_189g ho hw hy, h1, h2, yb_t, yb_f, nI_1e0, e5, e, zbk_v, zts_s, ↓reduceIte]
      | false =>
        rw [h4] at e5
        rw [if_neg (by decide)]
        obtain ⟨h', e, w, f⟩ := d_194 (sv := sv) (d := d + 40) (k := nI 45) (x := x) (y := y) ho hl
        refine yRes_add (nd := (nI 45, 0, x, y)) ?_ w f hl hw hx hy rfl
        simp only [zc_99, zs_99_0, zs_99_0n, zs_99_1, zs_99_2, zs_99_3, zs_99_6, zs_99_9, zs_99_10, zs_99_11, zs_99_11n, zs_99_12, zs_99_13, zs_99_14, zs_99_17, zs_99_20, zs_99_20n, zs_99_21, zs_99_22, zs_99_25, zs_99_27, zs_99_30, zs_99_30n, zs_99_31, zs_99_32, zs_99_35, zs_99_38, zs_99_38n, zs_99_39, zs_99_40, zs_99_43, zs_99_44, zs_99_44n, zs_99_45, zs_99_46, zs_99_46n, zs_99_47, zs_99_48, zs_99_49, zs_99_52, zs_99_55, zs_99_55n, zs_99_56, zs_99_57, zs_99_60, zs_99_61, zs_99_61n, zs_99_62, zs_99_64, zs_99_65, zs_99_66, zs_99_69, zTre_rc ho, d_189g ho hw hx, d_189g ho hw hy, h1, h2, yb_f, e5, e, zbk_v, zts_s, ↓reduceIte]
theorem d_100 (ho : zTre h o 124 os) (hw : ywf os) (hl : os.length < 124) (hx : ych os.length x) (hy : ych os.length y) : yRes h o os (zcall zP sv (d + 4) 100 [.int x, .int y, .ref o] h) (ysm (ygt (ytm os) x) (ygt (ytm os) y)) := by
  unfold ysm
  cases h1 : ynu (ygt (ytm os) x) 0 with
  | true =>
    rw [if_pos rfl]
    obtain ⟨h', e, w, f⟩ := d_192 (sv := sv) (d := d) (x := 0) ho hl
    refine yRes_add (nd := (nI 99, 0, -1, -1)) ?_ w f hl hw ych_n ych_n (by rw [ygt_n]; rfl)
    simp only [zc_100, zs_100_0, zs_100_0n, zs_100_1, zs_100_2, zs_100_3, zs_100_6, zs_100_9, zs_100_9n, zs_100_10, zs_100_11, zs_100_12, zs_100_15, zs_100_18, zs_100_18n, zs_100_19, zs_100_20, zs_100_23, zs_100_24, zs_100_24n, zs_100_25, zs_100_26, zs_100_27, zs_100_30, zs_100_33, zs_100_34, zs_100_35, zs_100_35n, zs_100_36, zs_100_37, zs_100_38, zs_100_41, zs_100_44, zs_100_45, zs_100_48, zs_100_48n, zs_100_49, zs_100_51, zs_100_52, zs_100_53, zs_100_56, zTre_rc ho, d_189g ho hw hx, h1, yb_t, nI_1e0, e, zbk_v, zts_s, ↓reduceIte]
  | false =>
    rw [if_neg (by decide)]
    cases h2 : ynu (ygt (ytm os) y) 0 with
    | true =>
      rw [if_pos rfl]
      obtain ⟨h', e, w, f⟩ := d_192 (sv := sv) (d := d) (x := 0) ho hl
      refine yRes_add (nd := (nI 99, 0, -1, -1)) ?_ w f hl hw ych_n ych_n (by rw [ygt_n]; rfl)
      simp only [zc_100, zs_100_0, zs_100_0n, zs_100_1, zs_100_2, zs_100_3, zs_100_6, zs_100_9, zs_100_9n, zs_100_10, zs_100_11, zs_100_12, zs_100_15, zs_100_18, zs_100_18n, zs_100_19, zs_100_20, zs_100_23, zs_100_24, zs_100_24n, zs_100_25, zs_100_26, zs_100_27, zs_100_30, zs_100_33, zs_100_34, zs_100_35, zs_100_35n, zs_100_36, zs_100_37, zs_100_38, zs_100_41, zs_100_44, zs_100_45, zs_100_48, zs_100_48n, zs_100_49, zs_100_51, zs_100_52, zs_100_53, zs_100_56, zTre_rc ho, d_189g ho hw hx, d_189g ho hw hy, h1, h2, yb_t, yb_f, nI_1e0, e, zbk_v, zts_s, ↓reduceIte]
    | false =>
      rw [if_neg (by decide)]
      cases h3 : ynu (ygt (ytm os) x) (nI 1) with
      | true =>
        rw [if_pos rfl]
        refine yRes_same ?_ ho hw hy rfl
        simp only [zc_100, zs_100_0, zs_100_0n, zs_100_1, zs_100_2, zs_100_3, zs_100_6, zs_100_9, zs_100_9n, zs_100_10, zs_100_11, zs_100_12, zs_100_15, zs_100_18, zs_100_18n, zs_100_19, zs_100_20, zs_100_23, zs_100_24, zs_100_24n, zs_100_25, zs_100_26, zs_100_27, zs_100_30, zs_100_33, zs_100_34, zs_100_35, zs_100_35n, zs_100_36, zs_100_37, zs_100_38, zs_100_41, zs_100_44, zs_100_45, zs_100_48, zs_100_48n, zs_100_49, zs_100_51, zs_100_52, zs_100_53, zs_100_56, zTre_rc ho, d_189g ho hw hx, d_189g ho hw hy, h1, h2, h3, yb_t, yb_f, nI_1e0, zbk_v, zts_s, ↓reduceIte]
      | false =>
        rw [if_neg (by decide)]
        cases h4 : ynu (ygt (ytm os) y) (nI 1) with
        | true =>
          rw [if_pos rfl]
          refine yRes_same ?_ ho hw hx rfl
          simp only [zc_100, zs_100_0, zs_100_0n, zs_100_1, zs_100_2, zs_100_3, zs_100_6, zs_100_9, zs_100_9n, zs_100_10, zs_100_11, zs_100_12, zs_100_15, zs_100_18, zs_100_18n, zs_100_19, zs_100_20, zs_100_23, zs_100_24, zs_100_24n, zs_100_25, zs_100_26, zs_100_27, zs_100_30, zs_100_33, zs_100_34, zs_100_35, zs_100_35n, zs_100_36, zs_100_37, zs_100_38, zs_100_41, zs_100_44, zs_100_45, zs_100_48, zs_100_48n, zs_100_49, zs_100_51, zs_100_52, zs_100_53, zs_100_56, zTre_rc ho, d_189g ho hw hx, d_189g ho hw hy, h1, h2, h3, h4, yb_t, yb_f, nI_1e0, zbk_v, zts_s, ↓reduceIte]
        | false =>
          rw [if_neg (by decide)]
          obtain ⟨h', e, w, f⟩ := d_194 (sv := sv) (d := d) (k := nI 42) (x := x) (y := y) ho hl
          refine yRes_add (nd := (nI 42, 0, x, y)) ?_ w f hl hw hx hy rfl
          simp only [zc_100, zs_100_0, zs_100_0n, zs_100_1, zs_100_2, zs_100_3, zs_100_6, zs_100_9, zs_100_9n, zs_100_10, zs_100_11, zs_100_12, zs_100_15, zs_100_18, zs_100_18n, zs_100_19, zs_100_20, zs_100_23, zs_100_24, zs_100_24n, zs_100_25, zs_100_26, zs_100_27, zs_100_30, zs_100_33, zs_100_34, zs_100_35, zs_100_35n, zs_100_36, zs_100_37, zs_100_38, zs_100_41, zs_100_44, zs_100_45, zs_100_48, zs_100_48n, zs_100_49, zs_100_51, zs_100_52, zs_100_53, zs_100_56, zTre_rc ho, d_189g ho hw hx, d_189g ho hw hy, h1, h2, h3, h4, yb_f, e, zbk_v, zts_s, ↓reduceIte]
end ZDN
