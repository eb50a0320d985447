/-- a term's root -/
def yk : yT → Int32
  | .leaf => 0
  | .inner _ k _ _ _ => k
def yv : yT → Int32
  | .leaf => 0
  | .inner _ _ v _ _ => v
def yl : yT → yT
  | .leaf => .leaf
  | .inner _ _ _ l _ => l
def yr : yT → yT
  | .leaf => .leaf
  | .inner _ _ _ _ r => r
def ycn (v : Int32) : yT := ymk (nI 99) v .leaf .leaf
def ynu (t : yT) (c : Int32) : Bool := decide (yk t = nI 99) && decide (yv t = c)
def ysn (a : yT) : yT := if yk a = nI 99 then ycn (-(yv a)) else if yk a = nI 110 then yl a else ymk (nI 110) 0 a .leaf
def ysu (a b : yT) : yT := if ynu a 0 = true then b else if ynu b 0 = true then a else ymk (nI 43) 0 a b
def ysd (a b : yT) : yT := if ynu b 0 = true then a else if ynu a 0 = true then (if yk b = nI 110 then yl b else ymk (nI 110) 0 b .leaf) else if yeq a b = true then ycn 0 else ymk (nI 45) 0 a b
def ysm (a b : yT) : yT := if ynu a 0 = true then ycn 0 else if ynu b 0 = true then ycn 0 else if ynu a (nI 1) = true then b else if ynu b (nI 1) = true then a else ymk (nI 42) 0 a b
def ysp (k : Int32) (a b : yT) : yT := if yk a = nI 99 ∧ yk b = nI 99 then ycn (yop k (yv a) (yv b)) else if k = nI 43 then ysu a b else if k = nI 45 then ysd a b else ysm a b
def ysim : yT → yT
  | .leaf => .leaf
  | .inner _ k v l r => if k = nI 110 then ysn (ysim l) else if yis k = true then ysp k (ysim l) (ysim r) else ymk k v .leaf .leaf
theorem ygt_new {os : List yN} {nd : yN} (hl : os.length < 2 ^ 31) : ygt (ytm (os ++ [nd])) (nI os.length) = ymk nd.1 nd.2.1 (ygt (ytm os) nd.2.2.1) (ygt (ytm os) nd.2.2.2) := by
  rw [ygt_k hl, List.getD_eq_getElem?_getD, ytm_snoc, List.getElem?_append_right (by rw [ytm_l]; exact Nat.le_refl _), ytm_l, Nat.sub_self]
  rfl
theorem ych_snoc {os : List yN} {nd : yN} : ych (os ++ [nd]).length (nI os.length) := Or.inr ⟨os.length, by rw [List.length_append]; exact Nat.lt_succ_self _, rfl⟩
theorem ych_n {i : Nat} : ych i (-1) := Or.inl rfl
section ZDM
variable {sv : Nat → Value} {d : Nat} {h : zH} {o m : Nat} {os : List yN} {x : Int32}
theorem d_184g (ho : zTre h o m os) (hw : ywf os) (hx : ych os.length x) : zcall zP sv (d + 2) 184 [.ref o, .int x] h = some (.inl (some (.int (yk (ygt (ytm os) x)))), h) := by
  rcases hx with rfl | ⟨j, hj, rfl⟩
  · rw [d_184n ho, ygt_n]; rfl
  · obtain ⟨nd, hnd⟩ := ynd_ex hj
    rw [d_184 ho hnd, ygt_at hw hnd]; rfl
theorem d_185g (ho : zTre h o m os) (hw : ywf os) (hx : ych os.length x) : zcall zP sv (d + 2) 185 [.ref o, .int x] h = some (.inl (some (.int (yv (ygt (ytm os) x)))), h) := by
  rcases hx with rfl | ⟨j, hj, rfl⟩
  · obtain ⟨K, N, L, R, h0, hr, _⟩ := ho
    rw [zc_185, zs_185_0, zs_185_1, h0, zTc, zf_6_1, zs_185_4, zs_185_5, zRow_rc hr.2.1, d_165 hr.2.1, zbk_v, zts_s, zs_185_8, yg_n, ygt_n]
    rfl
  · obtain ⟨nd, hnd⟩ := ynd_ex hj
    rw [d_185 ho hnd, ygt_at hw hnd]; rfl
theorem d_186g (ho : zTre h o m os) (hw : ywf os) (hx : ych os.length x) (hk : yk (ygt (ytm os) x) = nI 110) : ∃ y, zcall zP sv (d + 2) 186 [.ref o, .int x] h = some (.inl (some (.int y)), h) ∧ ych os.length y ∧ ygt (ytm os) y = yl (ygt (ytm os) x) := by
  rcases hx with rfl | ⟨j, hj, rfl⟩
  · rw [ygt_n] at hk
    exact absurd hk (by decide +kernel)
  · obtain ⟨nd, hnd⟩ := ynd_ex hj
    exact ⟨nd.2.2.1, d_186 ho hnd, (ych_lt hw hnd).1, by rw [ygt_at hw hnd]; rfl⟩
theorem d_189g {c : Int32} (ho : zTre h o m os) (hw : ywf os) (hx : ych os.length x) : zcall zP sv (d + 3) 189 [.ref o, .int x, .int c] h = some (.inl (some (.int (yb (ynu (ygt (ytm os) x) c)))), h) := by
  unfold ynu
  rw [zc_189, zs_189_0, zs_189_1, zs_189_2, zTre_rc ho, d_184g ho hw hx, zbk_v, zts_s, zs_189_5, zs_189_7]
  by_cases h1 : yk (ygt (ytm os) x) = nI 99
  · rw [if_pos h1, zs_189_10, zs_189_11, zs_189_12, zTre_rc ho, d_185g ho hw hx, zbk_v, zts_s, zs_189_15, zs_189_16, decide_eq_true h1]
    by_cases h2 : yv (ygt (ytm os) x) = c
    · rw [if_pos h2, zs_189_19, zs_189_20, zs_189_24, decide_eq_true h2, zty_51, zgd_t]; rfl
    · rw [if_neg h2, zs_189_23, zs_189_24, decide_eq_false h2, zty_50, zgd_t]; rfl
  · rw [if_neg h1, zs_189_23, zs_189_24, decide_eq_false h1, zty_50, zgd_t]; rfl
end ZDM
/-- what one step of building leaves: at most one node more -/
def yRes (h : zH) (o : Nat) (os : List yN) (r : zR) (u : yT) : Prop := ∃ h' os' x, r = some (.inl (some (.int x)), h') ∧ zTre h' o 124 os' ∧ (∃ e, os' = os ++ e ∧ e.length ≤ 1) ∧ ywf os' ∧ ych os'.length x ∧ ygt (ytm os') x = u ∧ zfr o (o + 9) h h'
theorem yRes_same {h : zH} {o : Nat} {os : List yN} {r : zR} {u : yT} {x : Int32} (hr : r = some (.inl (some (.int x)), h)) (ho : zTre h o 124 os) (hw : ywf os) (hx : ych os.length x) (hu : ygt (ytm os) x = u) : yRes h o os r u := ⟨h, os, x, hr, ho, ⟨[], (List.append_nil _).symm, by decide⟩, hw, hx, hu, zfr_rfl⟩
theorem yRes_add {h : zH} {o : Nat} {os : List yN} {r : zR} {u : yT} {nd : yN} {h' : zH} (hr : r = some (.inl (some (.int (nI os.length))), h')) (ho : zTre h' o 124 (os ++ [nd])) (hf : zfr o (o + 9) h h') (hl : os.length < 124) (hw : ywf os) (h1 : ych os.length nd.2.2.1) (h2 : ych os.length nd.2.2.2) (hu : ymk nd.1 nd.2.1 (ygt (ytm os) nd.2.2.1) (ygt (ytm os) nd.2.2.2) = u) : yRes h o os r u := ⟨h', os ++ [nd], _, hr, ho, ⟨[nd], rfl, Nat.le_refl _⟩, ywf_snoc hw h1 h2 (by omega), ych_snoc, by rw [ygt_new (by omega), hu], hf⟩
section ZDN
variable {sv : Nat → Value} {d : Nat} {h : zH} {o : Nat} {os : List yN} {x y : Int32}
theorem d_97 (ho : zTre h o 124 os) (hw : ywf os) (hl : os.length < 124) (hx : ych os.length x) : yRes h o os (zcall zP sv (d + 4) 97 [.int x, .ref o] h) (ysn (ygt (ytm os) x)) := by
  unfold ysn
  by_cases h1 : yk (ygt (ytm os) x) = nI 99
  · rw [if_pos h1]
    obtain ⟨h', e, w, f⟩ := d_192 (sv := sv) (d := d) (x := -(yv (ygt (ytm os) x))) ho hl
    refine yRes_add (nd := (nI 99, -(yv (ygt (ytm os) x)), -1, -1)) ?_ w f hl hw ych_n ych_n (by rw [ygt_n]; rfl)
    have e84 : yop (nI 110) (yv (ygt (ytm os) x)) 0 = -(yv (ygt (ytm os) x)) := by unfold yop; rw [if_pos rfl]
    simp only [zc_97, zs_97_0, zs_97_1, zs_97_2, zs_97_5, zs_97_7, zs_97_10, zs_97_11, zs_97_13, zs_97_14, zs_97_15, zs_97_18, zs_97_19, zs_97_22, zs_97_25, zs_97_26, zs_97_27, zs_97_28, zs_97_31, zs_97_33, zs_97_36, zs_97_37, zs_97_38, zs_97_41, zs_97_44, zs_97_45, zs_97_46, zs_97_49, zTre_rc ho, d_184g ho hw hx, d_185g ho hw hx, if_pos h1, d_84, e84, e, zbk_v, zts_s]
  · rw [if_neg h1]
    by_cases h2 : yk (ygt (ytm os) x) = nI 110
    · rw [if_pos h2]
      obtain ⟨z, e, w1, w2⟩ := d_186g (sv := sv) (d := d + 1) ho hw hx h2
      refine yRes_same ?_ ho hw w1 w2
      simp only [zc_97, zs_97_0, zs_97_1, zs_97_2, zs_97_5, zs_97_7, zs_97_10, zs_97_11, zs_97_13, zs_97_14, zs_97_15, zs_97_18, zs_97_19, zs_97_22, zs_97_25, zs_97_26, zs_97_27, zs_97_28, zs_97_31, zs_97_33, zs_97_36, zs_97_37, zs_97_38, zs_97_41, zs_97_44, zs_97_45, zs_97_46, zs_97_49, zTre_rc ho, d_184g ho hw hx, if_neg h1, if_pos h2, e, zbk_v, zts_s]
    · rw [if_neg h2]
      obtain ⟨h', e, w, f⟩ := d_193 (sv := sv) (d := d) (x := x) ho hl
      refine yRes_add (nd := (nI 110, 0, x, -1)) ?_ w f hl hw hx ych_n (by rw [ygt_n])
      simp only [zc_97, zs_97_0, zs_97_1, zs_97_2, zs_97_5, zs_97_7, zs_97_10, zs_97_11, zs_97_13, zs_97_14, zs_97_15, zs_97_18, zs_97_19, zs_97_22, zs_97_25, zs_97_26, zs_97_27, zs_97_28, zs_97_31, zs_97_33, zs_97_36, zs_97_37, zs_97_38, zs_97_41, zs_97_44, zs_97_45, zs_97_46, zs_97_49, zTre_rc ho, d_184g ho hw hx, if_neg h1, if_neg h2, e, zbk_v, zts_s]
theorem d_98 (ho : zTre h o 124 os) (hw : ywf os) (hl : os.length < 124) (hx : ych os.length x) (hy : ych os.length y) : yRes h o os (zcall zP sv (d + 4) 98 [.int x, .int y, .ref o] h) (ysu (ygt (ytm os) x) (ygt (ytm os) y)) := by
  unfold ysu
  cases h1 : ynu (ygt (ytm os) x) 0 with
  | true =>
    rw [if_pos rfl]
    refine yRes_same ?_ ho hw hy rfl
    simp only [zc_98, zs_98_0, zs_98_1, zs_98_2, zs_98_3, zs_98_6, zs_98_9, zs_98_10, zs_98_11, zs_98_12, zs_98_13, zs_98_14, zs_98_17, zs_98_20, zs_98_21, zs_98_24, zs_98_25, zs_98_27, zs_98_28, zs_98_29, zs_98_32, zTre_rc ho, d_189g ho hw hx, h1, yb_t, nI_1e0, zbk_v, zts_s, ↓reduceIte]
  | false =>
    rw [if_neg (by decide)]
    cases h2 : ynu (ygt (ytm os) y) 0 with
    | true =>
      rw [if_pos rfl]
      refine yRes_same ?_ ho hw hx rfl
      simp only [zc_98, zs_98_0, zs_98_1, zs_98_2, zs_98_3, zs_98_6, zs_98_9, zs_98_10, zs_98_11, zs_98_12, zs_98_13, zs_98_14, zs_98_17, zs_98_20, zs_98_21, zs_98_24, zs_98_25, zs_98_27, zs_98_28, zs_98_29, zs_98_32, zTre_rc ho, d_189g ho hw hx, d_189g ho hw hy, h1, h2, yb_t, yb_f, nI_1e0, zbk_v, zts_s, ↓reduceIte]
    | false =>
      rw [if_neg (by decide)]
      obtain ⟨h', e, w, f⟩ := d_194 (sv := sv) (d := d) (k := nI 43) (x := x) (y := y) ho hl
      refine yRes_add (nd := (nI 43, 0, x, y)) ?_ w f hl hw hx hy rfl
      simp only [zc_98, zs_98_0, zs_98_1, zs_98_2, zs_98_3, zs_98_6, zs_98_9, zs_98_10, zs_98_11, zs_98_12, zs_98_13, zs_98_14, zs_98_17, zs_98_20, zs_98_21, zs_98_24, zs_98_25, zs_98_27, zs_98_28, zs_98_29, zs_98_32, zTre_rc ho, d_189g ho hw hx, d_189g ho hw hy, h1, h2, yb_f, e, zbk_v, zts_s, ↓reduceIte]
theorem d_99 (ho : zTre h o 124 os) (hw : ywf os) (hl : os.length < 124) (hx : ych os.length x) (hy : ych os.length y) (hdp : ydp (ygt (ytm os) x) ≤ 40) : yRes h o os (zcall zP sv (d + 44) 99 [.int x, .int y, .ref o] h) (ysd (ygt (ytm os) x) (ygt (ytm os) y)) := by
  unfold ysd
  cases h1 : ynu (ygt (ytm os) y) 0 with
  | true =>
    rw [if_pos rfl]
    refine yRes_same ?_ ho hw hx rfl
    simp only [zc_99, zs_99_0, zs_99_1, zs_99_2, zs_99_3, zs_99_6, zs_99_9, zs_99_10, zs_99_11, zs_99_12, zs_99_13, zs_99_14, zs_99_17, zs_99_20, zs_99_21, zs_99_22, zs_99_25, zs_99_27, zs_99_30, zs_99_31, zs_99_32, zs_99_35, zs_99_38, zs_99_39, zs_99_40, zs_99_43, zs_99_44, zs_99_45, zs_99_46, zs_99_47, zs_99_48, zs_99_49, zs_99_52, zs_99_55, zs_99_56, zs_99_57, zs_99_60, zs_99_61, zs_99_62, zs_99_64, zs_99_65, zs_99_66, zs_99_69, zTre_rc ho, d_189g ho hw hy, h1, yb_t, nI_1e0, zbk_v, zts_s, ↓reduceIte]
  | false =>
    rw [if_neg (by decide)]
    cases h2 : ynu (ygt (ytm os) x) 0 with
    | true =>
      rw [if_pos rfl]
      by_cases h3 : yk (ygt (ytm os) y) = nI 110
      · rw [if_pos h3]
        obtain ⟨z, e, w1, w2⟩ := d_186g (sv := sv) (d := d + 41) ho hw hy h3
        refine yRes_same ?_ ho hw w1 w2
        simp only [zc_99, zs_99_0, zs_99_1, zs_99_2, zs_99_3, zs_99_6, zs_99_9, zs_99_10, zs_99_11, zs_99_12, zs_99_13, zs_99_14, zs_99_17, zs_99_20, zs_99_21, zs_99_22, zs_99_25, zs_99_27, zs_99_30, zs_99_31, zs_99_32, zs_99_35, zs_99_38, zs_99_39, zs_99_40, zs_99_43, zs_99_44, zs_99_45, zs_99_46, zs_99_47, zs_99_48, zs_99_49, zs_99_52, zs_99_55, zs_99_56, zs_99_57, zs_99_60, zs_99_61, zs_99_62, zs_99_64, zs_99_65, zs_99_66, zs_99_69, zTre_rc ho, d_189g ho hw hx, d_189g ho hw hy, h1, h2, yb_t, yb_f, nI_1e0, d_184g ho hw hy, if_pos h3, e, zbk_v, zts_s, ↓reduceIte]
      · rw [if_neg h3]
        obtain ⟨h', e, w, f⟩ := d_193 (sv := sv) (d := d + 40) (x := y) ho hl
        refine yRes_add (nd := (nI 110, 0, y, -1)) ?_ w f hl hw hy ych_n (by rw [ygt_n])
        simp only [zc_99, zs_99_0, zs_99_1, zs_99_2, zs_99_3, zs_99_6, zs_99_9, zs_99_10, zs_99_11, zs_99_12, zs_99_13, zs_99_14, zs_99_17, zs_99_20, zs_99_21, zs_99_22, zs_99_25, zs_99_27, zs_99_30, zs_99_31, zs_99_32, zs_99_35, zs_99_38, zs_99_39, zs_99_40, zs_99_43, zs_99_44, zs_99_45, zs_99_46, zs_99_47, zs_99_48, zs_99_49, zs_99_52, zs_99_55, zs_99_56, zs_99_57, zs_99_60, zs_99_61, zs_99_62, zs_99_64, zs_99_65, zs_99_66, zs_99_69, zTre_rc ho, d_189g ho hw hx, d_189g ho hw hy, h1, h2, yb_t, yb_f, nI_1e0, d_184g ho hw hy, if_neg h3, e, zbk_v, zts_s, ↓reduceIte]
    | false =>
      rw [if_neg (by decide)]
      have e5 := d_85 (sv := sv) hw hw ho ho (ygt (ytm os) x) (ygt (ytm os) y) x y (d + 43) 1 hx hy rfl rfl (by omega) (by omega)
      cases h4 : yeq (ygt (ytm os) x) (ygt (ytm os) y) with
      | true =>
        rw [h4] at e5
        rw [if_pos rfl]
        obtain ⟨h', e, w, f⟩ := d_192 (sv := sv) (d := d + 40) (x := 0) ho hl
        refine yRes_add (nd := (nI 99, 0, -1, -1)) ?_ w f hl hw ych_n ych_n (by rw [ygt_n]; rfl)
        simp only [zc_99, zs_99_0, zs_99_1, zs_99_2, zs_99_3, zs_99_6, zs_99_9, zs_99_10, zs_99_11, zs_99_12, zs_99_13, zs_99_14, zs_99_17, zs_99_20, zs_99_21, zs_99_22, zs_99_25, zs_99_27, zs_99_30, zs_99_31, zs_99_32, zs_99_35, zs_99_38, zs_99_39, zs_99_40, zs_99_43, zs_99_44, zs_99_45, zs_99_46, zs_99_47, zs_99_48, zs_99_49, zs_99_52, zs_99_55, zs_99_56, zs_99_57, zs_99_60, zs_99_61, zs_99_62, zs_99_64, zs_99_65, zs_99_66, zs_99_69, zTre_rc ho, d_189g ho hw hx, d_189g ho hw hy, h1, h2, yb_t, yb_f, nI_1e0, e5, e, zbk_v, zts_s, ↓reduceIte]
      | false =>
        rw [h4] at e5
        rw [if_neg (by decide)]
        obtain ⟨h', e, w, f⟩ := d_194 (sv := sv) (d := d + 40) (k := nI 45) (x := x) (y := y) ho hl
        refine yRes_add (nd := (nI 45, 0, x, y)) ?_ w f hl hw hx hy rfl
        simp only [zc_99, zs_99_0, zs_99_1, zs_99_2, zs_99_3, zs_99_6, zs_99_9, zs_99_10, zs_99_11, zs_99_12, zs_99_13, zs_99_14, zs_99_17, zs_99_20, zs_99_21, zs_99_22, zs_99_25, zs_99_27, zs_99_30, zs_99_31, zs_99_32, zs_99_35, zs_99_38, zs_99_39, zs_99_40, zs_99_43, zs_99_44, zs_99_45, zs_99_46, zs_99_47, zs_99_48, zs_99_49, zs_99_52, zs_99_55, zs_99_56, zs_99_57, zs_99_60, zs_99_61, zs_99_62, zs_99_64, zs_99_65, zs_99_66, zs_99_69, zTre_rc ho, d_189g ho hw hx, d_189g ho hw hy, h1, h2, yb_f, e5, e, zbk_v, zts_s, ↓reduceIte]
theorem d_100 (ho : zTre h o 124 os) (hw : ywf os) (hl : os.length < 124) (hx : ych os.length x) (hy : ych os.length y) : yRes h o os (zcall zP sv (d + 4) 100 [.int x, .int y, .ref o] h) (ysm (ygt (ytm os) x) (ygt (ytm os) y)) := by
  unfold ysm
  cases h1 : ynu (ygt (ytm os) x) 0 with
  | true =>
    rw [if_pos rfl]
    obtain ⟨h', e, w, f⟩ := d_192 (sv := sv) (d := d) (x := 0) ho hl
    refine yRes_add (nd := (nI 99, 0, -1, -1)) ?_ w f hl hw ych_n ych_n (by rw [ygt_n]; rfl)
    simp only [zc_100, zs_100_0, zs_100_1, zs_100_2, zs_100_3, zs_100_6, zs_100_9, zs_100_10, zs_100_11, zs_100_12, zs_100_15, zs_100_18, zs_100_19, zs_100_20, zs_100_23, zs_100_24, zs_100_25, zs_100_26, zs_100_27, zs_100_30, zs_100_33, zs_100_34, zs_100_35, zs_100_36, zs_100_37, zs_100_38, zs_100_41, zs_100_44, zs_100_45, zs_100_48, zs_100_49, zs_100_51, zs_100_52, zs_100_53, zs_100_56, zTre_rc ho, d_189g ho hw hx, h1, yb_t, nI_1e0, e, zbk_v, zts_s, ↓reduceIte]
  | false =>
    rw [if_neg (by decide)]
    cases h2 : ynu (ygt (ytm os) y) 0 with
    | true =>
      rw [if_pos rfl]
      obtain ⟨h', e, w, f⟩ := d_192 (sv := sv) (d := d) (x := 0) ho hl
      refine yRes_add (nd := (nI 99, 0, -1, -1)) ?_ w f hl hw ych_n ych_n (by rw [ygt_n]; rfl)
      simp only [zc_100, zs_100_0, zs_100_1, zs_100_2, zs_100_3, zs_100_6, zs_100_9, zs_100_10, zs_100_11, zs_100_12, zs_100_15, zs_100_18, zs_100_19, zs_100_20, zs_100_23, zs_100_24, zs_100_25, zs_100_26, zs_100_27, zs_100_30, zs_100_33, zs_100_34, zs_100_35, zs_100_36, zs_100_37, zs_100_38, zs_100_41, zs_100_44, zs_100_45, zs_100_48, zs_100_49, zs_100_51, zs_100_52, zs_100_53, zs_100_56, zTre_rc ho, d_189g ho hw hx, d_189g ho hw hy, h1, h2, yb_t, yb_f, nI_1e0, e, zbk_v, zts_s, ↓reduceIte]
    | false =>
      rw [if_neg (by decide)]
      cases h3 : ynu (ygt (ytm os) x) (nI 1) with
      | true =>
        rw [if_pos rfl]
        refine yRes_same ?_ ho hw hy rfl
        simp only [zc_100, zs_100_0, zs_100_1, zs_100_2, zs_100_3, zs_100_6, zs_100_9, zs_100_10, zs_100_11, zs_100_12, zs_100_15, zs_100_18, zs_100_19, zs_100_20, zs_100_23, zs_100_24, zs_100_25, zs_100_26, zs_100_27, zs_100_30, zs_100_33, zs_100_34, zs_100_35, zs_100_36, zs_100_37, zs_100_38, zs_100_41, zs_100_44, zs_100_45, zs_100_48, zs_100_49, zs_100_51, zs_100_52, zs_100_53, zs_100_56, zTre_rc ho, d_189g ho hw hx, d_189g ho hw hy, h1, h2, h3, yb_t, yb_f, nI_1e0, zbk_v, zts_s, ↓reduceIte]
      | false =>
        rw [if_neg (by decide)]
        cases h4 : ynu (ygt (ytm os) y) (nI 1) with
        | true =>
          rw [if_pos rfl]
          refine yRes_same ?_ ho hw hx rfl
          simp only [zc_100, zs_100_0, zs_100_1, zs_100_2, zs_100_3, zs_100_6, zs_100_9, zs_100_10, zs_100_11, zs_100_12, zs_100_15, zs_100_18, zs_100_19, zs_100_20, zs_100_23, zs_100_24, zs_100_25, zs_100_26, zs_100_27, zs_100_30, zs_100_33, zs_100_34, zs_100_35, zs_100_36, zs_100_37, zs_100_38, zs_100_41, zs_100_44, zs_100_45, zs_100_48, zs_100_49, zs_100_51, zs_100_52, zs_100_53, zs_100_56, zTre_rc ho, d_189g ho hw hx, d_189g ho hw hy, h1, h2, h3, h4, yb_t, yb_f, nI_1e0, zbk_v, zts_s, ↓reduceIte]
        | false =>
          rw [if_neg (by decide)]
          obtain ⟨h', e, w, f⟩ := d_194 (sv := sv) (d := d) (k := nI 42) (x := x) (y := y) ho hl
          refine yRes_add (nd := (nI 42, 0, x, y)) ?_ w f hl hw hx hy rfl
          simp only [zc_100, zs_100_0, zs_100_1, zs_100_2, zs_100_3, zs_100_6, zs_100_9, zs_100_10, zs_100_11, zs_100_12, zs_100_15, zs_100_18, zs_100_19, zs_100_20, zs_100_23, zs_100_24, zs_100_25, zs_100_26, zs_100_27, zs_100_30, zs_100_33, zs_100_34, zs_100_35, zs_100_36, zs_100_37, zs_100_38, zs_100_41, zs_100_44, zs_100_45, zs_100_48, zs_100_49, zs_100_51, zs_100_52, zs_100_53, zs_100_56, zTre_rc ho, d_189g ho hw hx, d_189g ho hw hy, h1, h2, h3, h4, yb_f, e, zbk_v, zts_s, ↓reduceIte]
end ZDN

def zAl (h : zH) (al : Nat) (P : List Int32) : Prop := h.1 al = (9, [.ref (al + 1)]) ∧ zRow h (al + 1) P ∧ P.length = 124
theorem zAl_rc {h : zH} {al : Nat} {P : List Int32} {X : zR} (ha : zAl h al P) : zrc (h.1 al) 9 X = X := by
  rw [ha.1]
  exact zrc_k
theorem zAl_fr {h h' : zH} {lo hi al : Nat} {P : List Int32} (ha : zAl h al P) (hf : zfr lo hi h h') (hq : al + 3 ≤ lo ∨ hi ≤ al) : zAl h' al P := ⟨by rw [hf.1 al (by omega), ha.1], zRow_fr ha.2.1 hf (by omega), ha.2.2⟩
theorem zAl_set {h : zH} {al i : Nat} {P : List Int32} {x : Int32} (ha : zAl h al P) (hi : i < 2 ^ 31) : zAl (zup h (al + 1 + 1) (20, (ys P (nI i) x).map Value.int)) al (P.set i x) := by
  rw [ys_k hi]
  exact ⟨by rw [zup_ne (by omega), ha.1], zRow_new ha.2.1 (by rw [List.length_set]), by rw [List.length_set]; exact ha.2.2⟩
/-- the places of the first i nodes: what the map makes of each -/
def yP2 (φ : yT → yT) (ns os : List yN) (P : List Int32) (i : Nat) : Prop := ∀ (j : Nat) (t : yT), j < i → (ytm ns)[j]? = some t → ∃ x, P[j]? = some x ∧ ych os.length x ∧ ygt (ytm os) x = φ t
theorem yP2_0 {φ : yT → yT} {ns os : List yN} {P : List Int32} : yP2 φ ns os P 0 := fun j t hj => absurd hj (Nat.not_lt_zero j)
theorem yP2_app {φ : yT → yT} {ns os e : List yN} {P : List Int32} {i : Nat} (hp : yP2 φ ns os P i) (hl : os.length < 2 ^ 31) : yP2 φ ns (os ++ e) P i := fun j t hj ht => by
  obtain ⟨x, h1, h2, h3⟩ := hp j t hj ht
  exact ⟨x, h1, ych_mono h2 (by rw [List.length_append]; omega), by rw [ygt_pre hl h2, h3]⟩
theorem yP2_s {φ : yT → yT} {ns os : List yN} {P : List Int32} {i : Nat} {x : Int32} {t : yT} (hp : yP2 φ ns os P i) (ht : (ytm ns)[i]? = some t) (hi : i < P.length) (hx : ych os.length x) (hu : ygt (ytm os) x = φ t) : yP2 φ ns os (P.set i x) (i + 1) := fun j u hj hju => by
  by_cases h1 : j = i
  · subst h1
    rw [ht] at hju
    injection hju with hju
    subst hju
    exact ⟨x, by rw [List.getElem?_set_self hi], hx, hu⟩
  · rw [List.getElem?_set_ne (Ne.symm h1)]
    exact hp j u (by omega) hju
section ZDO
variable {sv : Nat → Value} {d : Nat} {h : zH}
theorem d_91 {φ : yT → yT} {ns os : List yN} {P : List Int32} {al i : Nat} {x : Int32} (ha : zAl h al P) (hp : yP2 φ ns os P i) (hx : ych i x) (hi : i ≤ ns.length) (hl : ns.length < 2 ^ 31) (h0 : φ .leaf = .leaf) : ∃ y, zcall zP sv (d + 2) 91 [.ref al, .int x] h = some (.inl (some (.int y)), h) ∧ ych os.length y ∧ ygt (ytm os) y = φ (ygt (ytm ns) x) := by
  rcases hx with rfl | ⟨j, hj, rfl⟩
  · refine ⟨-1, ?_, ych_n, by rw [ygt_n, ygt_n, h0]⟩
    simp only [zc_91, zs_91_0, zs_91_1, zs_91_2, zs_91_5, zs_91_6, zs_91_9, zs_91_10, zs_91_13, zs_91_14, zs_91_17, nI_m1e, ↓reduceIte]
  · have e1 : (ytm ns)[j]? = some ((ytm ns)[j]'(by rw [ytm_l]; omega)) := List.getElem?_eq_getElem _
    obtain ⟨y, p1, p2, p3⟩ := hp j _ hj e1
    refine ⟨y, ?_, p2, ?_⟩
    · have g1 : ¬ nI j = -1 := nI_nm1 (by omega)
      simp only [zc_91, zs_91_0, zs_91_1, zs_91_2, zs_91_5, zs_91_6, zs_91_9, zs_91_10, zs_91_13, zs_91_14, zs_91_17, if_neg g1, ha.1, zrc_9, zf_9_0, zp_9_0, zp_9_0n, zRow_rc ha.2.1, d_165 ha.2.1, yg_e (show j < 2 ^ 31 by omega) p1, zbk_v, zts_s]
    · rw [p3, ygt_k (by omega), List.getD_eq_getElem?_getD, e1]
      rfl
theorem ysim_mk {k v : Int32} {l r : yT} : ysim (ymk k v l r) = if k = nI 110 then ysn (ysim l) else if yis k = true then ysp k (ysim l) (ysim r) else ymk k v .leaf .leaf := rfl
theorem yis_43 : yis (nI 43) = true := by decide +kernel
theorem yis_45 : yis (nI 45) = true := by decide +kernel
theorem yis_42 : yis (nI 42) = true := by decide +kernel
theorem yis_110 : yis (nI 110) = false := by decide +kernel
theorem d_96 {f m o al i : Nat} {ns os : List yN} {P : List Int32} {nd : yN} (hf : zTre h f m ns) (hwf : ywf ns) (hnd : ns[i]? = some nd) (ha : zAl h al P) (hp : yP2 ysim ns os P i) (ho : zTre h o 124 os) (hw : ywf os) (hl : os.length < 124) (hdp : ∀ x, ych i x → ydp (ysim (ygt (ytm ns) x)) ≤ 40) : yRes h o os (zcall zP sv (d + 45) 96 [.ref al, .ref f, .int (nI i), .ref o] h) (ysim (ymk nd.1 nd.2.1 (ygt (ytm ns) nd.2.2.1) (ygt (ytm ns) nd.2.2.2))) := by
  have hi := (List.getElem?_eq_some_iff.mp hnd).1
  have hc := hwf.2 i nd hnd
  obtain ⟨x, ex, x1, x2⟩ := d_91 (sv := sv) (d := d + 42) ha hp hc.1 (by omega) hwf.1 rfl
  obtain ⟨y, ey, y1, y2⟩ := d_91 (sv := sv) (d := d + 42) ha hp hc.2 (by omega) hwf.1 rfl
  rw [ysim_mk, ← x2, ← y2]
  by_cases h1 : nd.1 = nI 110
  · rw [if_pos h1]
    obtain ⟨h', os', z, e, w⟩ := d_97 (sv := sv) (d := d + 40) ho hw hl x1
    refine ⟨h', os', z, ?_, w⟩
    simp (disch := exact znw_u) only [zc_96, zs_96_0, zs_96_1, zs_96_2, zs_96_5, zs_96_7, zs_96_8, zs_96_9, zs_96_10, zs_96_13, zs_96_16, zs_96_18, zs_96_19, zs_96_20, zs_96_21, zs_96_24, zs_96_27, zs_96_29, zs_96_31, zs_96_33, zs_96_36, zs_96_38, zs_96_39, zs_96_42, zs_96_43, zs_96_45, zs_96_48, zs_96_51, zs_96_52, zs_96_54, zs_96_55, zs_96_56, zs_96_59, zs_96_60, zs_96_61, zs_96_64, zs_96_65, zs_96_66, zs_96_68, zs_96_71, zs_96_73, zs_96_76, zs_96_77, zs_96_79, zs_96_82, zs_96_84, zs_96_87, zs_96_88, zs_96_90, zs_96_91, zs_96_93, zs_96_96, zs_96_97, zs_96_99, zs_96_102, zs_96_105, zs_96_108, zs_96_109, zs_96_111, zs_96_113, zs_96_116, zs_96_118, zs_96_120, zs_96_121, zs_96_124, zs_96_125, zs_96_127, zs_96_129, zs_96_132, zs_96_134, zs_96_136, zs_96_137, zs_96_140, zs_96_143, zs_96_145, zs_96_147, zs_96_148, zs_96_151, zTre_rc hf, zAl_rc ha, d_184 hf hnd, d_186 hf hnd, d_187 hf hnd, ex, ey, if_pos h1, e, zbk_v, zts_s]
  · rw [if_neg h1]
    cases h2 : yis nd.1 with
    | false =>
      rw [if_neg (by decide)]
      obtain ⟨h', e, w, f1⟩ := d_191 (sv := sv) (d := d + 42) (k := nd.1) (n := nd.2.1) (l := -1) (r := -1) ho hl
      refine yRes_add (nd := (nd.1, nd.2.1, -1, -1)) ?_ w f1 hl hw ych_n ych_n (by rw [ygt_n])
      simp (disch := exact znw_u) only [zc_96, zs_96_0, zs_96_1, zs_96_2, zs_96_5, zs_96_7, zs_96_8, zs_96_9, zs_96_10, zs_96_13, zs_96_16, zs_96_18, zs_96_19, zs_96_20, zs_96_21, zs_96_24, zs_96_27, zs_96_29, zs_96_31, zs_96_33, zs_96_36, zs_96_38, zs_96_39, zs_96_42, zs_96_43, zs_96_45, zs_96_48, zs_96_51, zs_96_52, zs_96_54, zs_96_55, zs_96_56, zs_96_59, zs_96_60, zs_96_61, zs_96_64, zs_96_65, zs_96_66, zs_96_68, zs_96_71, zs_96_73, zs_96_76, zs_96_77, zs_96_79, zs_96_82, zs_96_84, zs_96_87, zs_96_88, zs_96_90, zs_96_91, zs_96_93, zs_96_96, zs_96_97, zs_96_99, zs_96_102, zs_96_105, zs_96_108, zs_96_109, zs_96_111, zs_96_113, zs_96_116, zs_96_118, zs_96_120, zs_96_121, zs_96_124, zs_96_125, zs_96_127, zs_96_129, zs_96_132, zs_96_134, zs_96_136, zs_96_137, zs_96_140, zs_96_143, zs_96_145, zs_96_147, zs_96_148, zs_96_151, zTre_rc hf, zTre_rc ho, zAl_rc ha, d_184 hf hnd, d_185 hf hnd, d_186 hf hnd, d_187 hf hnd, ex, ey, if_neg h1, d_83, h2, yb_f, e, zbk_v, zts_s, ↓reduceIte]
    | true =>
      rw [if_pos rfl]
      unfold ysp
      by_cases h3 : yk (ygt (ytm os) x) = nI 99 ∧ yk (ygt (ytm os) y) = nI 99
      · rw [if_pos h3]
        obtain ⟨h', e, w, f1⟩ := d_192 (sv := sv) (d := d + 41) (x := yop nd.1 (yv (ygt (ytm os) x)) (yv (ygt (ytm os) y))) ho hl
        refine yRes_add (nd := (nI 99, yop nd.1 (yv (ygt (ytm os) x)) (yv (ygt (ytm os) y)), -1, -1)) ?_ w f1 hl hw ych_n ych_n (by rw [ygt_n]; rfl)
        simp (disch := exact znw_u) only [zc_96, zs_96_0, zs_96_1, zs_96_2, zs_96_5, zs_96_7, zs_96_8, zs_96_9, zs_96_10, zs_96_13, zs_96_16, zs_96_18, zs_96_19, zs_96_20, zs_96_21, zs_96_24, zs_96_27, zs_96_29, zs_96_31, zs_96_33, zs_96_36, zs_96_38, zs_96_39, zs_96_42, zs_96_43, zs_96_45, zs_96_48, zs_96_51, zs_96_52, zs_96_54, zs_96_55, zs_96_56, zs_96_59, zs_96_60, zs_96_61, zs_96_64, zs_96_65, zs_96_66, zs_96_68, zs_96_71, zs_96_73, zs_96_76, zs_96_77, zs_96_79, zs_96_82, zs_96_84, zs_96_87, zs_96_88, zs_96_90, zs_96_91, zs_96_93, zs_96_96, zs_96_97, zs_96_99, zs_96_102, zs_96_105, zs_96_108, zs_96_109, zs_96_111, zs_96_113, zs_96_116, zs_96_118, zs_96_120, zs_96_121, zs_96_124, zs_96_125, zs_96_127, zs_96_129, zs_96_132, zs_96_134, zs_96_136, zs_96_137, zs_96_140, zs_96_143, zs_96_145, zs_96_147, zs_96_148, zs_96_151, zTre_rc hf, zTre_rc ho, zAl_rc ha, d_184 hf hnd, d_186 hf hnd, d_187 hf hnd, ex, ey, if_neg h1, d_83, h2, yb_t, nI_1e0, d_184g ho hw x1, d_184g ho hw y1, if_pos h3.1, if_pos h3.2, d_185g ho hw x1, d_185g ho hw y1, d_84, e, zbk_v, zts_s, ↓reduceIte]
      · rw [if_neg h3]
        have e0 : zcall zP sv (d + 45) 96 [.ref al, .ref f, .int (nI i), .ref o] h = zrun zP sv (zcall zP sv (d + 44)) 96 109 [.val (.ref al), .val (.ref f), .val (.int (nI i)), .val (.ref o), .val (.int nd.1), .val (.int x), .val (.int y)] [] h := by
          by_cases h4 : yk (ygt (ytm os) x) = nI 99
          · have h5 : ¬ yk (ygt (ytm os) y) = nI 99 := fun h6 => h3 ⟨h4, h6⟩
            simp (disch := exact znw_u) only [zc_96, zs_96_0, zs_96_1, zs_96_2, zs_96_5, zs_96_7, zs_96_8, zs_96_9, zs_96_10, zs_96_13, zs_96_16, zs_96_18, zs_96_19, zs_96_20, zs_96_21, zs_96_24, zs_96_27, zs_96_29, zs_96_31, zs_96_33, zs_96_36, zs_96_38, zs_96_39, zs_96_42, zs_96_43, zs_96_45, zs_96_48, zs_96_51, zs_96_52, zs_96_54, zs_96_55, zs_96_56, zs_96_59, zs_96_60, zs_96_61, zs_96_64, zs_96_65, zs_96_66, zs_96_68, zs_96_71, zs_96_73, zs_96_76, zs_96_77, zs_96_79, zs_96_82, zs_96_84, zs_96_87, zs_96_88, zs_96_90, zs_96_91, zs_96_93, zs_96_96, zs_96_97, zs_96_99, zs_96_102, zs_96_105, zs_96_108, zs_96_111, zs_96_113, zs_96_116, zs_96_118, zs_96_120, zs_96_121, zs_96_124, zs_96_125, zs_96_127, zs_96_129, zs_96_132, zs_96_134, zs_96_136, zs_96_137, zs_96_140, zs_96_143, zs_96_145, zs_96_147, zs_96_148, zs_96_151, zTre_rc hf, zTre_rc ho, zAl_rc ha, d_184 hf hnd, d_186 hf hnd, d_187 hf hnd, ex, ey, if_neg h1, d_83, h2, yb_t, nI_1e0, d_184g ho hw x1, d_184g ho hw y1, if_pos h4, if_neg h5, zbk_v, zts_s, ↓reduceIte]
          · simp (disch := exact znw_u) only [zc_96, zs_96_0, zs_96_1, zs_96_2, zs_96_5, zs_96_7, zs_96_8, zs_96_9, zs_96_10, zs_96_13, zs_96_16, zs_96_18, zs_96_19, zs_96_20, zs_96_21, zs_96_24, zs_96_27, zs_96_29, zs_96_31, zs_96_33, zs_96_36, zs_96_38, zs_96_39, zs_96_42, zs_96_43, zs_96_45, zs_96_48, zs_96_51, zs_96_52, zs_96_54, zs_96_55, zs_96_56, zs_96_59, zs_96_60, zs_96_61, zs_96_64, zs_96_65, zs_96_66, zs_96_68, zs_96_71, zs_96_73, zs_96_76, zs_96_77, zs_96_79, zs_96_82, zs_96_84, zs_96_87, zs_96_88, zs_96_90, zs_96_91, zs_96_93, zs_96_96, zs_96_97, zs_96_99, zs_96_102, zs_96_105, zs_96_108, zs_96_111, zs_96_113, zs_96_116, zs_96_118, zs_96_120, zs_96_121, zs_96_124, zs_96_125, zs_96_127, zs_96_129, zs_96_132, zs_96_134, zs_96_136, zs_96_137, zs_96_140, zs_96_143, zs_96_145, zs_96_147, zs_96_148, zs_96_151, zTre_rc hf, zTre_rc ho, zAl_rc ha, d_184 hf hnd, d_186 hf hnd, d_187 hf hnd, ex, ey, if_neg h1, d_83, h2, yb_t, nI_1e0, d_184g ho hw x1, if_neg h4, zbk_v, zts_s, ↓reduceIte]
        rw [e0]
        by_cases h4 : nd.1 = nI 43
        · rw [if_pos h4]
          obtain ⟨h', os', z, e, w⟩ := d_98 (sv := sv) (d := d + 40) ho hw hl x1 y1
          refine ⟨h', os', z, ?_, w⟩
          simp (disch := exact znw_u) only [zs_96_0, zs_96_1, zs_96_2, zs_96_5, zs_96_7, zs_96_8, zs_96_9, zs_96_10, zs_96_13, zs_96_16, zs_96_18, zs_96_19, zs_96_20, zs_96_21, zs_96_24, zs_96_27, zs_96_29, zs_96_31, zs_96_33, zs_96_36, zs_96_38, zs_96_39, zs_96_42, zs_96_43, zs_96_45, zs_96_48, zs_96_51, zs_96_52, zs_96_54, zs_96_55, zs_96_56, zs_96_59, zs_96_60, zs_96_61, zs_96_64, zs_96_65, zs_96_66, zs_96_68, zs_96_71, zs_96_73, zs_96_76, zs_96_77, zs_96_79, zs_96_82, zs_96_84, zs_96_87, zs_96_88, zs_96_90, zs_96_91, zs_96_93, zs_96_96, zs_96_97, zs_96_99, zs_96_102, zs_96_105, zs_96_108, zs_96_109, zs_96_111, zs_96_113, zs_96_116, zs_96_118, zs_96_120, zs_96_121, zs_96_124, zs_96_125, zs_96_127, zs_96_129, zs_96_132, zs_96_134, zs_96_136, zs_96_137, zs_96_140, zs_96_143, zs_96_145, zs_96_147, zs_96_148, zs_96_151, if_pos h4, e, zbk_v, zts_s]
        · rw [if_neg h4]
          by_cases h5 : nd.1 = nI 45
          · rw [if_pos h5]
            obtain ⟨h', os', z, e, w⟩ := d_99 (sv := sv) (d := d) ho hw hl x1 y1 (by rw [x2]; exact hdp _ hc.1)
            refine ⟨h', os', z, ?_, w⟩
            simp (disch := exact znw_u) only [zs_96_0, zs_96_1, zs_96_2, zs_96_5, zs_96_7, zs_96_8, zs_96_9, zs_96_10, zs_96_13, zs_96_16, zs_96_18, zs_96_19, zs_96_20, zs_96_21, zs_96_24, zs_96_27, zs_96_29, zs_96_31, zs_96_33, zs_96_36, zs_96_38, zs_96_39, zs_96_42, zs_96_43, zs_96_45, zs_96_48, zs_96_51, zs_96_52, zs_96_54, zs_96_55, zs_96_56, zs_96_59, zs_96_60, zs_96_61, zs_96_64, zs_96_65, zs_96_66, zs_96_68, zs_96_71, zs_96_73, zs_96_76, zs_96_77, zs_96_79, zs_96_82, zs_96_84, zs_96_87, zs_96_88, zs_96_90, zs_96_91, zs_96_93, zs_96_96, zs_96_97, zs_96_99, zs_96_102, zs_96_105, zs_96_108, zs_96_109, zs_96_111, zs_96_113, zs_96_116, zs_96_118, zs_96_120, zs_96_121, zs_96_124, zs_96_125, zs_96_127, zs_96_129, zs_96_132, zs_96_134, zs_96_136, zs_96_137, zs_96_140, zs_96_143, zs_96_145, zs_96_147, zs_96_148, zs_96_151, if_neg h4, if_pos h5, e, zbk_v, zts_s]
          · rw [if_neg h5]
            obtain ⟨h', os', z, e, w⟩ := d_100 (sv := sv) (d := d + 40) ho hw hl x1 y1
            refine ⟨h', os', z, ?_, w⟩
            simp (disch := exact znw_u) only [zs_96_0, zs_96_1, zs_96_2, zs_96_5, zs_96_7, zs_96_8, zs_96_9, zs_96_10, zs_96_13, zs_96_16, zs_96_18, zs_96_19, zs_96_20, zs_96_21, zs_96_24, zs_96_27, zs_96_29, zs_96_31, zs_96_33, zs_96_36, zs_96_38, zs_96_39, zs_96_42, zs_96_43, zs_96_45, zs_96_48, zs_96_51, zs_96_52, zs_96_54, zs_96_55, zs_96_56, zs_96_59, zs_96_60, zs_96_61, zs_96_64, zs_96_65, zs_96_66, zs_96_68, zs_96_71, zs_96_73, zs_96_76, zs_96_77, zs_96_79, zs_96_82, zs_96_84, zs_96_87, zs_96_88, zs_96_90, zs_96_91, zs_96_93, zs_96_96, zs_96_97, zs_96_99, zs_96_102, zs_96_105, zs_96_108, zs_96_109, zs_96_111, zs_96_113, zs_96_116, zs_96_118, zs_96_120, zs_96_121, zs_96_124, zs_96_125, zs_96_127, zs_96_129, zs_96_132, zs_96_134, zs_96_136, zs_96_137, zs_96_140, zs_96_143, zs_96_145, zs_96_147, zs_96_148, zs_96_151, if_neg h4, if_neg h5, e, zbk_v, zts_s]
end ZDO

/-- the same cells on a range -/
def zcg (lo hi : Nat) (h h' : zH) : Prop := ∀ q, lo ≤ q → q < hi → h'.1 q = h.1 q
theorem zcg_fr {lo hi a b : Nat} {h h' : zH} (hf : zfr a b h h') (hq : hi ≤ a ∨ b ≤ lo) : zcg lo hi h h' := fun q h1 h2 => hf.1 q (by omega)
theorem zcg_tr {lo hi : Nat} {h h' h'' : zH} (h1 : zcg lo hi h h') (h2 : zcg lo hi h' h'') : zcg lo hi h h'' := fun q a b => (h2 q a b).trans (h1 q a b)
theorem zcg_mono {lo hi lo' hi' : Nat} {h h' : zH} (h1 : zcg lo hi h h') (ha : lo ≤ lo') (hb : hi' ≤ hi) : zcg lo' hi' h h' := fun q a b => h1 q (by omega) (by omega)
theorem zRow_cg {h h' : zH} {r : Nat} {A : List Int32} (hr : zRow h r A) (hf : zcg r (r + 2) h h') : zRow h' r A := ⟨by rw [hf r (by omega) (by omega), hr.1], by rw [hf (r + 1) (by omega) (by omega), hr.2.1], hr.2.2⟩
theorem zTre_cg {h h' : zH} {t m : Nat} {ns : List yN} (ht : zTre h t m ns) (hf : zcg t (t + 9) h h') : zTre h' t m ns := by
  obtain ⟨K, N, L, R, h0, ⟨h1, h2, h3, h4⟩, h5⟩ := ht
  exact ⟨K, N, L, R, by rw [hf t (by omega) (by omega), h0], ⟨zRow_cg h1 (zcg_mono hf (by omega) (by omega)), zRow_cg h2 (zcg_mono hf (by omega) (by omega)), zRow_cg h3 (zcg_mono hf (by omega) (by omega)), zRow_cg h4 (zcg_mono hf (by omega) (by omega))⟩, h5⟩
theorem zGau_cg {h h' : zH} {g : Nat} {A B C : List Int32} (hg : zGau h g A B C) (hf : zcg g (g + 7) h h') : zGau h' g A B C := ⟨by rw [hf g (by omega) (by omega), hg.1], zRow_cg hg.2.1 (zcg_mono hf (by omega) (by omega)), zRow_cg hg.2.2.1 (zcg_mono hf (by omega) (by omega)), zRow_cg hg.2.2.2.1 (zcg_mono hf (by omega) (by omega)), hg.2.2.2.2⟩
theorem zAl_cg {h h' : zH} {al : Nat} {P : List Int32} (ha : zAl h al P) (hf : zcg al (al + 3) h h') : zAl h' al P := ⟨by rw [hf al (by omega) (by omega), ha.1], zRow_cg ha.2.1 (zcg_mono hf (by omega) (by omega)), ha.2.2⟩
theorem zSta_cg {h h' : zH} {s : Nat} {S : yS} (hs : zSta h s S) (hf : zcg s (s + 4) h h') : zSta h' s S := by
  obtain ⟨h1, ⟨F, h2, h3⟩, h4, h5⟩ := hs
  exact ⟨by rw [hf s (by omega) (by omega), h1], ⟨F, by rw [hf (s + 1) (by omega) (by omega), h2], h3⟩, zRow_cg h4 (zcg_mono hf (by omega) (by omega)), h5⟩
theorem zHis_cg {h h' : zH} {g : Nat} {H : List yS} (hg : zHis h g H) (hf : zcg g (g + 34) h h') : zHis h' g H := by
  obtain ⟨nx, h0, h1, h2, h3, h4, h5⟩ := hg
  refine ⟨nx, h0, by rw [hf g (by omega) (by omega), h1], by rw [hf (g + 1) (by omega) (by omega), h2], fun k hk => ?_, fun j S hj => ?_, h5⟩
  · obtain ⟨S, hS⟩ := h3 k hk
    exact ⟨S, zSta_cg hS (zcg_mono hf (by omega) (by omega))⟩
  · exact zSta_cg (h4 j S hj) (zcg_mono hf (by omega) (by omega))
/-- two ranges of addresses changed alone -/
def zf2 (a b c e : Nat) (h h' : zH) : Prop := (∀ q, (q < a ∨ b ≤ q) → (q < c ∨ e ≤ q) → h'.1 q = h.1 q) ∧ h'.2 = h.2
theorem zf2_rfl {a b c e : Nat} {h : zH} : zf2 a b c e h h := ⟨fun _ _ _ => rfl, rfl⟩
theorem zf2_tr {a b c e : Nat} {h h' h'' : zH} (h1 : zf2 a b c e h h') (h2 : zf2 a b c e h' h'') : zf2 a b c e h h'' := ⟨fun q p r => (h2.1 q p r).trans (h1.1 q p r), h2.2.trans h1.2⟩
theorem zf2_1 {a b c e : Nat} {h h' : zH} (h1 : zfr a b h h') : zf2 a b c e h h' := ⟨fun q p _ => h1.1 q p, h1.2⟩
theorem zf2_2 {a b c e : Nat} {h h' : zH} (h1 : zfr c e h h') : zf2 a b c e h h' := ⟨fun q _ p => h1.1 q p, h1.2⟩
theorem zcg_f2 {lo hi a b c e : Nat} {h h' : zH} (hf : zf2 a b c e h h') (h1 : hi ≤ a ∨ b ≤ lo) (h2 : hi ≤ c ∨ e ≤ lo) : zcg lo hi h h' := fun q h3 h4 => hf.1 q (by omega) (by omega)
theorem zf2_fr {a b c e lo hi : Nat} {h h' : zH} (hf : zf2 a b c e h h') (h1 : lo ≤ a) (h2 : b ≤ hi) (h3 : lo ≤ c) (h4 : e ≤ hi) : zfr lo hi h h' := ⟨fun q hq => hf.1 q (by omega) (by omega), hf.2⟩
theorem ydp_ysn {a : yT} : ydp (ysn a) ≤ ydp a + 1 := by
  unfold ysn
  by_cases h1 : yk a = nI 99
  · rw [if_pos h1]; exact Nat.le_add_left _ _
  · rw [if_neg h1]
    by_cases h2 : yk a = nI 110
    · rw [if_pos h2]
      cases a with
      | leaf => exact Nat.zero_le _
      | inner n k v l r =>
        show ydp l ≤ max (ydp l) (ydp r) + 1 + 1
        have := Nat.le_max_left (ydp l) (ydp r)
        omega
    · rw [if_neg h2]
      show max (ydp a) 0 + 1 ≤ ydp a + 1
      rw [Nat.max_eq_left (Nat.zero_le _)]
      exact Nat.le_refl _
theorem ydp_yl {a : yT} : ydp (yl a) ≤ ydp a := by
  cases a with
  | leaf => exact Nat.le_refl _
  | inner n k v l r =>
    show ydp l ≤ max (ydp l) (ydp r) + 1
    have := Nat.le_max_left (ydp l) (ydp r)
    omega
theorem ydp_cn {v : Int32} : ydp (ycn v) = 1 := rfl
theorem ydp_ysp {k : Int32} {a b : yT} : ydp (ysp k a b) ≤ max (ydp a) (ydp b) + 1 := by
  have m1 := Nat.le_max_left (ydp a) (ydp b)
  have m2 := Nat.le_max_right (ydp a) (ydp b)
  have m3 := ydp_yl (a := b)
  have m4 : ∀ k v, ydp (ymk k v b .leaf) = ydp b + 1 := fun k v => by
    show max (ydp b) 0 + 1 = ydp b + 1
    rw [Nat.max_eq_left (Nat.zero_le _)]
  unfold ysp ysu ysd ysm
  repeat' split
  all_goals first
    | (rw [ydp_cn]; omega)
    | (rw [ydp_mk]; omega)
    | (rw [m4]; omega)
    | omega
theorem ydp_ysim : ∀ t : yT, ydp (ysim t) ≤ ydp t
  | .leaf => Nat.le_refl _
  | .inner n k v l r => by
    have i1 := ydp_ysim l
    have i2 := ydp_ysim r
    have m1 := Nat.le_max_left (ydp l) (ydp r)
    have m2 := Nat.le_max_right (ydp l) (ydp r)
    show ydp (if k = nI 110 then ysn (ysim l) else if yis k = true then ysp k (ysim l) (ysim r) else ymk k v .leaf .leaf) ≤ max (ydp l) (ydp r) + 1
    split
    · have := ydp_ysn (a := ysim l)
      omega
    · split
      · have := ydp_ysp (k := k) (a := ysim l) (b := ysim r)
        omega
      · show 0 + 1 ≤ _
        omega
section ZDP
variable {sv : Nat → Value} {d : Nat}
theorem d_95l {f m o al : Nat} {ns : List yN} {rt : Int32} (hwf : ywf ns) (hn : ns.length ≤ 124) (h1 : f + 9 ≤ o ∨ o + 9 ≤ f) (h2 : f + 9 ≤ al ∨ al + 3 ≤ f) (h3 : o + 9 ≤ al ∨ al + 3 ≤ o) (hdp : ∀ x, ych ns.length x → ydp (ysim (ygt (ytm ns) x)) ≤ 40) : ∀ n i (h : zH) (os : List yN) (P : List Int32), i + n = ns.length → os.length ≤ i → ywf os → zTre h f m ns → zTre h o 124 os → zAl h al P → yP2 ysim ns os P i → ∃ h' os' P', zrun zP sv (zcall zP sv (d + 45)) 95 7 [.val (.ref al), .val (.ref f), .val (.int rt), .val (.ref o), .val (.int (nI i))] [] h = zrun zP sv (zcall zP sv (d + 45)) 95 39 [.val (.ref al), .val (.ref f), .val (.int rt), .val (.ref o), .val (.int (nI ns.length))] [] h' ∧ os'.length ≤ ns.length ∧ ywf os' ∧ zTre h' o 124 os' ∧ zAl h' al P' ∧ yP2 ysim ns os' P' ns.length ∧ zf2 o (o + 9) al (al + 3) h h' := by
  intro n
  induction n with
  | zero =>
    intro i h os P hi hos hw hf ho ha hp
    obtain rfl : i = ns.length := by omega
    refine ⟨h, os, P, ?_, hos, hw, ho, ha, hp, zf2_rfl⟩
    rw [zs_95_7, zs_95_9, zs_95_10, zTre_rc hf, d_182 hf, zbk_v, zts_s, zs_95_13, if_neg (nI_nlt (Nat.le_refl _) hwf.1)]
  | succ n ih =>
    intro i h os P hi hos hw hf ho ha hp
    have hl := hwf.1
    obtain ⟨nd, hnd⟩ := ynd_ex (ns := ns) (i := i) (by omega)
    obtain ⟨h1', os1, x, e1, w1, ⟨e, rfl, he⟩, w3, w4, w5, f1⟩ := d_96 (sv := sv) (d := d) hf hwf hnd ha hp ho hw (by omega) (fun x hx => hdp x (ych_mono hx (by omega)))
    have a1 := zAl_fr ha f1 (by omega)
    have e2 := d_166 (sv := sv) (d := d + 44) (x := nI i) (y := x) a1.2.1
    have a2 := zAl_set (x := x) a1 (show i < 2 ^ 31 by omega)
    have f2 : zfr al (al + 3) h1' (zup h1' (al + 1 + 1) (20, (ys P (nI i) x).map Value.int)) := zfr_up (by omega) (by omega)
    have p1 := yP2_s (yP2_app (e := e) hp (by omega)) (ytm_at hwf hnd) (by rw [ha.2.2]; omega) w4 w5
    have hq := zf2_tr (zf2_1 (c := al) (e := al + 3) f1) (zf2_2 (a := o) (b := o + 9) f2)
    obtain ⟨h', os', P', e3, v1, v2, v3, v4, v5, v6⟩ := ih (i + 1) _ (os ++ e) (P.set i x) (by omega) (by rw [List.length_append]; omega) w3 (zTre_cg hf (zcg_f2 hq (by omega) (by omega))) (zTre_fr w1 f2 (by omega)) a2 p1
    refine ⟨h', os', P', ?_, v1, v2, v3, v4, v5, zf2_tr hq v6⟩
    have q0 := ha.1
    rw [zs_95_7, zs_95_9, zs_95_10, zTre_rc hf, d_182 hf, zbk_v, zts_s, zs_95_13, if_pos (nI_lt (by omega) hl)]
    simp only [zs_95_0, zs_95_1, zs_95_4, zs_95_5, zs_95_9, zs_95_10, zs_95_13, zs_95_16, zs_95_17, zs_95_20, zs_95_22, zs_95_23, zs_95_24, zs_95_26, zs_95_27, zs_95_30, zs_95_33, zs_95_40, zs_95_41, zs_95_44, q0, zrc_9, zf_9_0, zp_9_0, zp_9_0n, zAl_rc ha, e1, zRow_rc a1.2.1, e2, zbk_v, zts_s, zts_n]
    rw [zs_95_36, nI_1', e3]
theorem d_95 {h : zH} {f m o al : Nat} {ns ms : List yN} {P : List Int32} {rt : Int32} (hwf : ywf ns) (hn : ns.length ≤ 124) (h1 : f + 9 ≤ o ∨ o + 9 ≤ f) (h2 : f + 9 ≤ al ∨ al + 3 ≤ f) (h3 : o + 9 ≤ al ∨ al + 3 ≤ o) (hdp : ∀ x, ych ns.length x → ydp (ysim (ygt (ytm ns) x)) ≤ 40) (hf : zTre h f m ns) (ho : zTre h o 124 ms) (ha : zAl h al P) (hr : ych ns.length rt) : ∃ h' os' P' x, zcall zP sv (d + 46) 95 [.ref al, .ref f, .int rt, .ref o] h = some (.inl (some (.int x)), h') ∧ os'.length ≤ ns.length ∧ ywf os' ∧ zTre h' o 124 os' ∧ zAl h' al P' ∧ ych os'.length x ∧ ygt (ytm os') x = ysim (ygt (ytm ns) rt) ∧ zf2 o (o + 9) al (al + 3) h h' := by
  obtain ⟨h1', e1, w1, f1⟩ := d_190 (sv := sv) (d := d + 44) ho
  obtain ⟨h', os', P', e2, v1, v2, v3, v4, v5, v6⟩ := d_95l (sv := sv) (d := d) (rt := rt) hwf hn h1 h2 h3 hdp ns.length 0 h1' [] P (Nat.zero_add _) (Nat.zero_le _) ywf_nil (zTre_fr hf f1 (by omega)) w1 (zAl_fr ha f1 (by omega)) yP2_0
  rw [nI_0] at e2
  obtain ⟨x, ex, x1, x2⟩ := d_91 (sv := sv) (d := d + 43) v4 v5 hr (Nat.le_refl _) hwf.1 rfl
  refine ⟨h', os', P', x, ?_, v1, v2, v3, v4, x1, x2, zf2_tr (zf2_1 f1) v6⟩
  rw [zc_95, zs_95_0, zs_95_1, zTre_rc ho, e1, zbk_v, zts_n, zs_95_4, zs_95_5 znw_u, e2]
  simp only [zs_95_0, zs_95_1, zs_95_4, zs_95_5, zs_95_7, zs_95_9, zs_95_10, zs_95_13, zs_95_16, zs_95_17, zs_95_20, zs_95_22, zs_95_23, zs_95_24, zs_95_26, zs_95_27, zs_95_30, zs_95_33, zs_95_36, zs_95_39, zs_95_40, zs_95_41, zs_95_44, zAl_rc v4, ex, zbk_v, zts_s]
end ZDP

def yder (c : Int32) : yT → yT
  | .leaf => .leaf
  | .inner _ k v l r => if k = nI 110 then ymk (nI 110) 0 (yder c l) .leaf else if k = nI 43 ∨ k = nI 45 then ymk k 0 (yder c l) (yder c r) else if k = nI 42 then ymk (nI 43) 0 (ymk (nI 42) 0 (yder c l) r) (ymk (nI 42) 0 l (yder c r)) else ycn (if k = nI 118 ∧ v = c then nI 1 else 0)
def yins (c : Int32) (w : yT) : yT → yT
  | .leaf => .leaf
  | .inner _ k v l r => if k = nI 118 ∧ v = c then w else ymk k v (yins c w l) (yins c w r)
theorem yder_mk {c k v : Int32} {l r : yT} : yder c (ymk k v l r) = if k = nI 110 then ymk (nI 110) 0 (yder c l) .leaf else if k = nI 43 ∨ k = nI 45 then ymk k 0 (yder c l) (yder c r) else if k = nI 42 then ymk (nI 43) 0 (ymk (nI 42) 0 (yder c l) r) (ymk (nI 42) 0 l (yder c r)) else ycn (if k = nI 118 ∧ v = c then nI 1 else 0) := rfl
theorem yins_mk {c k v : Int32} {w l r : yT} : yins c w (ymk k v l r) = if k = nI 118 ∧ v = c then w else ymk k v (yins c w l) (yins c w r) := rfl
/-- all terms of a tree are of bounded depth -/
def yBd (B : Nat) (os : List yN) : Prop := ∀ (j : Nat) (t : yT), (ytm os)[j]? = some t → ydp t ≤ B
theorem yBd_snoc {B : Nat} {os : List yN} {nd : yN} (hb : yBd B os) (h : ydp (ymk nd.1 nd.2.1 (ygt (ytm os) nd.2.2.1) (ygt (ytm os) nd.2.2.2)) ≤ B) : yBd B (os ++ [nd]) := fun j t ht => by
  rw [ytm_snoc] at ht
  by_cases hj : j < (ytm os).length
  · rw [List.getElem?_append_left hj] at ht
    exact hb j t ht
  · rw [List.getElem?_append_right (by omega)] at ht
    have h2 := List.mem_of_getElem? ht
    rw [List.mem_singleton] at h2
    rw [h2]
    exact h
theorem yBd_x {B : Nat} {os : List yN} {x : Int32} (hb : yBd B os) (hl : os.length < 2 ^ 31) (hx : ych os.length x) : ydp (ygt (ytm os) x) ≤ B := by
  rcases hx with rfl | ⟨j, hj, rfl⟩
  · rw [ygt_n]; exact Nat.zero_le _
  · have e1 : (ytm os)[j]? = some ((ytm os)[j]'(by rw [ytm_l]; omega)) := List.getElem?_eq_getElem _
    rw [ygt_k (by omega), List.getD_eq_getElem?_getD, e1]
    exact hb j _ e1
theorem yBd_nil {B : Nat} : yBd B [] := fun j t h => by cases h
/-- what one step of building leaves: at most n nodes more -/
def yRn (h : zH) (o : Nat) (os : List yN) (n : Nat) (r : zR) (u : yT) : Prop := ∃ h' e x, r = some (.inl (some (.int x)), h') ∧ zTre h' o 124 (os ++ e) ∧ e.length ≤ n ∧ ywf (os ++ e) ∧ ych (os ++ e).length x ∧ ygt (ytm (os ++ e)) x = u ∧ zfr o (o + 9) h h' ∧ ∀ B, yBd B os → ydp u ≤ B → yBd B (os ++ e)
theorem yRn_add {h : zH} {o n : Nat} {os : List yN} {r : zR} {u : yT} {nd : yN} {h' : zH} (hn : 0 < n) (hr : r = some (.inl (some (.int (nI os.length))), h')) (ho : zTre h' o 124 (os ++ [nd])) (hf : zfr o (o + 9) h h') (hl : os.length < 124) (hw : ywf os) (h1 : ych os.length nd.2.2.1) (h2 : ych os.length nd.2.2.2) (hu : ymk nd.1 nd.2.1 (ygt (ytm os) nd.2.2.1) (ygt (ytm os) nd.2.2.2) = u) : yRn h o os n r u := ⟨h', [nd], _, hr, ho, hn, ywf_snoc hw h1 h2 (by omega), ych_snoc, by rw [ygt_new (by omega), hu], hf, fun B hb hB => yBd_snoc hb (by rw [hu]; exact hB)⟩
section ZDQ
variable {sv : Nat → Value} {d : Nat} {h : zH}
theorem d_91u {φ : yT → yT} {ns os : List yN} {P : List Int32} {al i : Nat} {x : Int32} (hp : yP2 φ ns os P i) (hx : ych i x) (hi : i ≤ ns.length) (hl : ns.length < 2 ^ 31) (h0 : φ .leaf = .leaf) : ∃ y, (∀ h d, zAl h al P → zcall zP sv (d + 2) 91 [.ref al, .int x] h = some (.inl (some (.int y)), h)) ∧ ych os.length y ∧ ygt (ytm os) y = φ (ygt (ytm ns) x) := by
  rcases hx with rfl | ⟨j, hj, rfl⟩
  · refine ⟨-1, fun h d ha => ?_, ych_n, by rw [ygt_n, ygt_n, h0]⟩
    simp only [zc_91, zs_91_0, zs_91_1, zs_91_2, zs_91_5, zs_91_6, zs_91_9, zs_91_10, zs_91_13, zs_91_14, zs_91_17, nI_m1e, ↓reduceIte]
  · have e1 : (ytm ns)[j]? = some ((ytm ns)[j]'(by rw [ytm_l]; omega)) := List.getElem?_eq_getElem _
    obtain ⟨y, p1, p2, p3⟩ := hp j _ hj e1
    refine ⟨y, fun h d ha => ?_, p2, ?_⟩
    · have g1 : ¬ nI j = -1 := nI_nm1 (by omega)
      simp only [zc_91, zs_91_0, zs_91_1, zs_91_2, zs_91_5, zs_91_6, zs_91_9, zs_91_10, zs_91_13, zs_91_14, zs_91_17, if_neg g1, ha.1, zrc_9, zf_9_0, zp_9_0, zp_9_0n, zRow_rc ha.2.1, d_165 ha.2.1, yg_e (show j < 2 ^ 31 by omega) p1, zbk_v, zts_s]
    · rw [p3, ygt_k (by omega), List.getD_eq_getElem?_getD, e1]
      rfl
theorem d_94 {f m o al i : Nat} {ns e0 : List yN} {P : List Int32} {nd : yN} {c : Int32} (hf : zTre h f m ns) (hwf : ywf ns) (hnd : ns[i]? = some nd) (ha : zAl h al P) (hp : yP2 (yder c) ns (ns ++ e0) P i) (ho : zTre h o 124 (ns ++ e0)) (hw : ywf (ns ++ e0)) (hl : (ns ++ e0).length + 3 ≤ 124) (hd : o + 9 ≤ al ∨ al + 3 ≤ o) : yRn h o (ns ++ e0) 3 (zcall zP sv (d + 4) 94 [.ref al, .ref f, .int (nI i), .int c, .ref o] h) (yder c (ymk nd.1 nd.2.1 (ygt (ytm ns) nd.2.2.1) (ygt (ytm ns) nd.2.2.2))) := by
  have hi := (List.getElem?_eq_some_iff.mp hnd).1
  have hc := hwf.2 i nd hnd
  have hlen : (ns ++ e0).length = ns.length + e0.length := List.length_append
  have k1 : ych (ns ++ e0).length nd.2.2.1 := ych_mono hc.1 (by omega)
  have k2 : ych (ns ++ e0).length nd.2.2.2 := ych_mono hc.2 (by omega)
  have q1 : ygt (ytm (ns ++ e0)) nd.2.2.1 = ygt (ytm ns) nd.2.2.1 := ygt_pre hwf.1 (ych_mono hc.1 (by omega))
  have q2 : ygt (ytm (ns ++ e0)) nd.2.2.2 = ygt (ytm ns) nd.2.2.2 := ygt_pre hwf.1 (ych_mono hc.2 (by omega))
  obtain ⟨x, exu, x1, x2⟩ := d_91u (sv := sv) (al := al) hp hc.1 (by omega) hwf.1 rfl
  obtain ⟨y, eyu, y1, y2⟩ := d_91u (sv := sv) (al := al) hp hc.2 (by omega) hwf.1 rfl
  have ex := exu h (d + 1) ha
  have ey := eyu h (d + 1) ha
  rw [yder_mk, ← x2, ← y2]
  by_cases h1 : nd.1 = nI 110
  · rw [if_pos h1]
    obtain ⟨h', e, w, f1⟩ := d_193 (sv := sv) (d := d) (x := x) ho (by omega)
    refine yRn_add (nd := (nI 110, 0, x, -1)) (by decide) ?_ w f1 (by omega) hw x1 ych_n (by rw [ygt_n])
    simp (disch := exact znw_u) only [zc_94, zs_94_0, zs_94_1, zs_94_2, zs_94_5, zs_94_7, zs_94_8, zs_94_9, zs_94_12, zs_94_14, zs_94_15, zs_94_16, zs_94_19, zs_94_21, zs_94_23, zs_94_25, zs_94_28, zs_94_30, zs_94_31, zs_94_33, zs_94_36, zs_94_39, zs_94_40, zs_94_42, zs_94_44, zs_94_47, zs_94_49, zs_94_51, zs_94_54, zs_94_56, zs_94_58, zs_94_59, zs_94_61, zs_94_64, zs_94_65, zs_94_67, zs_94_70, zs_94_73, zs_94_74, zs_94_76, zs_94_78, zs_94_81, zs_94_83, zs_94_85, zs_94_86, zs_94_88, zs_94_91, zs_94_93, zs_94_96, zs_94_98, zs_94_100, zs_94_102, zs_94_104, zs_94_105, zs_94_107, zs_94_110, zs_94_113, zs_94_115, zs_94_117, zs_94_119, zs_94_121, zs_94_123, zs_94_126, zs_94_127, zs_94_129, zs_94_130, zs_94_131, zs_94_132, zs_94_135, zs_94_138, zs_94_139, zs_94_142, zs_94_143, zs_94_146, zTre_rc hf, zTre_rc ho, zAl_rc ha, d_184 hf hnd, d_186 hf hnd, d_187 hf hnd, ex, ey, if_pos h1, e, zbk_v, zts_s]
  · rw [if_neg h1]
    by_cases h2 : nd.1 = nI 43
    · rw [if_pos (Or.inl h2)]
      obtain ⟨h', e, w, f1⟩ := d_194 (sv := sv) (d := d) (k := nd.1) (x := x) (y := y) ho (by omega)
      refine yRn_add (nd := (nd.1, 0, x, y)) (by decide) ?_ w f1 (by omega) hw x1 y1 rfl
      simp (disch := exact znw_u) only [zc_94, zs_94_0, zs_94_1, zs_94_2, zs_94_5, zs_94_7, zs_94_8, zs_94_9, zs_94_12, zs_94_14, zs_94_15, zs_94_16, zs_94_19, zs_94_21, zs_94_23, zs_94_25, zs_94_28, zs_94_30, zs_94_31, zs_94_33, zs_94_36, zs_94_39, zs_94_40, zs_94_42, zs_94_44, zs_94_47, zs_94_49, zs_94_51, zs_94_54, zs_94_56, zs_94_58, zs_94_59, zs_94_61, zs_94_64, zs_94_65, zs_94_67, zs_94_70, zs_94_73, zs_94_74, zs_94_76, zs_94_78, zs_94_81, zs_94_83, zs_94_85, zs_94_86, zs_94_88, zs_94_91, zs_94_93, zs_94_96, zs_94_98, zs_94_100, zs_94_102, zs_94_104, zs_94_105, zs_94_107, zs_94_110, zs_94_113, zs_94_115, zs_94_117, zs_94_119, zs_94_121, zs_94_123, zs_94_126, zs_94_127, zs_94_129, zs_94_130, zs_94_131, zs_94_132, zs_94_135, zs_94_138, zs_94_139, zs_94_142, zs_94_143, zs_94_146, zTre_rc hf, zTre_rc ho, zAl_rc ha, d_184 hf hnd, d_186 hf hnd, d_187 hf hnd, ex, ey, if_neg h1, if_pos h2, e, zbk_v, zts_s]
    · by_cases h3 : nd.1 = nI 45
      · rw [if_pos (Or.inr h3)]
        obtain ⟨h', e, w, f1⟩ := d_194 (sv := sv) (d := d) (k := nd.1) (x := x) (y := y) ho (by omega)
        refine yRn_add (nd := (nd.1, 0, x, y)) (by decide) ?_ w f1 (by omega) hw x1 y1 rfl
        simp (disch := exact znw_u) only [zc_94, zs_94_0, zs_94_1, zs_94_2, zs_94_5, zs_94_7, zs_94_8, zs_94_9, zs_94_12, zs_94_14, zs_94_15, zs_94_16, zs_94_19, zs_94_21, zs_94_23, zs_94_25, zs_94_28, zs_94_30, zs_94_31, zs_94_33, zs_94_36, zs_94_39, zs_94_40, zs_94_42, zs_94_44, zs_94_47, zs_94_49, zs_94_51, zs_94_54, zs_94_56, zs_94_58, zs_94_59, zs_94_61, zs_94_64, zs_94_65, zs_94_67, zs_94_70, zs_94_73, zs_94_74, zs_94_76, zs_94_78, zs_94_81, zs_94_83, zs_94_85, zs_94_86, zs_94_88, zs_94_91, zs_94_93, zs_94_96, zs_94_98, zs_94_100, zs_94_102, zs_94_104, zs_94_105, zs_94_107, zs_94_110, zs_94_113, zs_94_115, zs_94_117, zs_94_119, zs_94_121, zs_94_123, zs_94_126, zs_94_127, zs_94_129, zs_94_130, zs_94_131, zs_94_132, zs_94_135, zs_94_138, zs_94_139, zs_94_142, zs_94_143, zs_94_146, zTre_rc hf, zTre_rc ho, zAl_rc ha, d_184 hf hnd, d_186 hf hnd, d_187 hf hnd, ex, ey, if_neg h1, if_neg h2, if_pos h3, e, zbk_v, zts_s]
      · rw [if_neg (fun g => g.elim h2 h3)]
        by_cases h4 : nd.1 = nI 42
        · rw [if_pos h4]
          obtain ⟨ha1, e1, w1, f1⟩ := d_194 (sv := sv) (d := d) (k := nI 42) (x := x) (y := nd.2.2.2) ho (by omega)
          have l1 : (ns ++ e0 ++ [(nI 42, 0, x, nd.2.2.2)]).length = (ns ++ e0).length + 1 := List.length_append
          have z1 := ywf_snoc (nd := (nI 42, 0, x, nd.2.2.2)) hw x1 k2 (by omega)
          have ey1 := eyu ha1 (d + 1) (zAl_fr ha f1 (by omega))
          obtain ⟨ha2, e2, w2, f2⟩ := d_194 (sv := sv) (d := d) (k := nI 42) (x := nd.2.2.1) (y := y) w1 (by omega)
          rw [l1] at e2
          have l2 : (ns ++ e0 ++ [(nI 42, 0, x, nd.2.2.2)] ++ [(nI 42, 0, nd.2.2.1, y)]).length = (ns ++ e0).length + 2 := by rw [List.length_append, l1]; rfl
          have z2 := ywf_snoc (nd := (nI 42, 0, nd.2.2.1, y)) z1 (ych_mono k1 (by omega)) (ych_mono y1 (by omega)) (by omega)
          obtain ⟨ha3, e3, w3, f3⟩ := d_194 (sv := sv) (d := d) (k := nI 43) (x := nI (ns ++ e0).length) (y := nI ((ns ++ e0).length + 1)) w2 (by omega)
          rw [l2] at e3
          have z3 := ywf_snoc (nd := (nI 43, 0, nI (ns ++ e0).length, nI ((ns ++ e0).length + 1))) z2 (Or.inr ⟨_, by omega, rfl⟩) (Or.inr ⟨_, by omega, rfl⟩) (by omega)
          have l3 : (ns ++ e0 ++ [(nI 42, 0, x, nd.2.2.2)] ++ [(nI 42, 0, nd.2.2.1, y)] ++ [(nI 43, 0, nI (ns ++ e0).length, nI ((ns ++ e0).length + 1))]).length = (ns ++ e0).length + 3 := by rw [List.length_append, l2]; rfl
          have a1 : ns ++ e0 ++ [(nI 42, 0, x, nd.2.2.2)] ++ [(nI 42, 0, nd.2.2.1, y)] ++ [(nI 43, 0, nI (ns ++ e0).length, nI ((ns ++ e0).length + 1))] = ns ++ e0 ++ [(nI 42, 0, x, nd.2.2.2), (nI 42, 0, nd.2.2.1, y), (nI 43, 0, nI (ns ++ e0).length, nI ((ns ++ e0).length + 1))] := by rw [List.append_assoc, List.append_assoc]; rfl
          have t1 : ygt (ytm (ns ++ e0 ++ [(nI 42, 0, x, nd.2.2.2)] ++ [(nI 42, 0, nd.2.2.1, y)])) (nI (ns ++ e0).length) = ymk (nI 42) 0 (ygt (ytm (ns ++ e0)) x) (ygt (ytm (ns ++ e0)) nd.2.2.2) := by
            rw [ygt_pre (by omega) (Or.inr ⟨_, by omega, rfl⟩), ygt_new (by omega)]
          have t2 : ygt (ytm (ns ++ e0 ++ [(nI 42, 0, x, nd.2.2.2)] ++ [(nI 42, 0, nd.2.2.1, y)])) (nI ((ns ++ e0).length + 1)) = ymk (nI 42) 0 (ygt (ytm (ns ++ e0)) nd.2.2.1) (ygt (ytm (ns ++ e0)) y) := by
            rw [← l1, ygt_new (by omega), ygt_pre (by omega) k1, ygt_pre (by omega) y1]
          refine ⟨ha3, [(nI 42, 0, x, nd.2.2.2), (nI 42, 0, nd.2.2.1, y), (nI 43, 0, nI (ns ++ e0).length, nI ((ns ++ e0).length + 1))], nI ((ns ++ e0).length + 2), ?_, by rw [← a1]; exact w3, Nat.le_refl _, by rw [← a1]; exact z3, by rw [← a1, l3]; exact Or.inr ⟨_, by omega, rfl⟩, ?_, zfr_tr (zfr_tr f1 f2) f3, fun B hb hB => ?_⟩
          · simp (disch := exact znw_u) only [zc_94, zs_94_0, zs_94_1, zs_94_2, zs_94_5, zs_94_7, zs_94_8, zs_94_9, zs_94_12, zs_94_14, zs_94_15, zs_94_16, zs_94_19, zs_94_21, zs_94_23, zs_94_25, zs_94_28, zs_94_30, zs_94_31, zs_94_33, zs_94_36, zs_94_39, zs_94_40, zs_94_42, zs_94_44, zs_94_47, zs_94_49, zs_94_51, zs_94_54, zs_94_56, zs_94_58, zs_94_59, zs_94_61, zs_94_64, zs_94_65, zs_94_67, zs_94_70, zs_94_73, zs_94_74, zs_94_76, zs_94_78, zs_94_81, zs_94_83, zs_94_85, zs_94_86, zs_94_88, zs_94_91, zs_94_93, zs_94_96, zs_94_98, zs_94_100, zs_94_102, zs_94_104, zs_94_105, zs_94_107, zs_94_110, zs_94_113, zs_94_115, zs_94_117, zs_94_119, zs_94_121, zs_94_123, zs_94_126, zs_94_127, zs_94_129, zs_94_130, zs_94_131, zs_94_132, zs_94_135, zs_94_138, zs_94_139, zs_94_142, zs_94_143, zs_94_146, zTre_rc hf, zTre_rc ho, zAl_rc ha, d_184 hf hnd, d_186 hf hnd, d_187 hf hnd, ex, ey, if_neg h1, if_neg h2, if_neg h3, if_pos h4, e1, zAl_rc (zAl_fr ha f1 (by omega)), ey1, zTre_rc w1, e2, zTre_rc w2, e3, zbk_v, zts_s]
          · rw [← a1, ← l2, ygt_new (by omega)]
            show ymk (nI 43) 0 (ygt _ (nI (ns ++ e0).length)) (ygt _ (nI ((ns ++ e0).length + 1))) = _
            rw [t1, t2, q1, q2]
          · rw [ydp_mk, ydp_mk, ydp_mk] at hB
            rw [← a1]
            refine yBd_snoc (yBd_snoc (yBd_snoc hb ?_) ?_) ?_
            · show ydp (ymk (nI 42) 0 (ygt (ytm (ns ++ e0)) x) (ygt (ytm (ns ++ e0)) nd.2.2.2)) ≤ B
              rw [q2, ydp_mk]
              omega
            · show ydp (ymk (nI 42) 0 (ygt _ nd.2.2.1) (ygt _ y)) ≤ B
              rw [ygt_pre (by omega) k1, ygt_pre (by omega) y1, q1, ydp_mk]
              omega
            · show ydp (ymk (nI 43) 0 (ygt _ (nI (ns ++ e0).length)) (ygt _ (nI ((ns ++ e0).length + 1)))) ≤ B
              rw [t1, t2, q1, q2, ydp_mk, ydp_mk, ydp_mk]
              omega
        · rw [if_neg h4]
          obtain ⟨h', e, w, f1⟩ := d_192 (sv := sv) (d := d) (x := if nd.1 = nI 118 ∧ nd.2.1 = c then nI 1 else 0) ho (by omega)
          refine yRn_add (nd := (nI 99, (if nd.1 = nI 118 ∧ nd.2.1 = c then nI 1 else 0), -1, -1)) (by decide) ?_ w f1 (by omega) hw ych_n ych_n (by rw [ygt_n]; rfl)
          have e8 := d_188 (sv := sv) (d := d) (c := c) hf hnd
          by_cases h5 : nd.1 = nI 118 ∧ nd.2.1 = c
          · rw [if_pos h5] at e e8
            simp (disch := exact znw_u) only [zc_94, zs_94_0, zs_94_1, zs_94_2, zs_94_5, zs_94_7, zs_94_8, zs_94_9, zs_94_12, zs_94_14, zs_94_15, zs_94_16, zs_94_19, zs_94_21, zs_94_23, zs_94_25, zs_94_28, zs_94_30, zs_94_31, zs_94_33, zs_94_36, zs_94_39, zs_94_40, zs_94_42, zs_94_44, zs_94_47, zs_94_49, zs_94_51, zs_94_54, zs_94_56, zs_94_58, zs_94_59, zs_94_61, zs_94_64, zs_94_65, zs_94_67, zs_94_70, zs_94_73, zs_94_74, zs_94_76, zs_94_78, zs_94_81, zs_94_83, zs_94_85, zs_94_86, zs_94_88, zs_94_91, zs_94_93, zs_94_96, zs_94_98, zs_94_100, zs_94_102, zs_94_104, zs_94_105, zs_94_107, zs_94_110, zs_94_113, zs_94_115, zs_94_117, zs_94_119, zs_94_121, zs_94_123, zs_94_126, zs_94_127, zs_94_129, zs_94_130, zs_94_131, zs_94_132, zs_94_135, zs_94_138, zs_94_139, zs_94_142, zs_94_143, zs_94_146, zTre_rc hf, zTre_rc ho, zAl_rc ha, d_184 hf hnd, d_186 hf hnd, d_187 hf hnd, ex, ey, if_neg h1, if_neg h2, if_neg h3, if_neg h4, e8, e, nI_1e0, zbk_v, zts_s, ↓reduceIte]
          · rw [if_neg h5] at e e8
            simp (disch := exact znw_u) only [zc_94, zs_94_0, zs_94_1, zs_94_2, zs_94_5, zs_94_7, zs_94_8, zs_94_9, zs_94_12, zs_94_14, zs_94_15, zs_94_16, zs_94_19, zs_94_21, zs_94_23, zs_94_25, zs_94_28, zs_94_30, zs_94_31, zs_94_33, zs_94_36, zs_94_39, zs_94_40, zs_94_42, zs_94_44, zs_94_47, zs_94_49, zs_94_51, zs_94_54, zs_94_56, zs_94_58, zs_94_59, zs_94_61, zs_94_64, zs_94_65, zs_94_67, zs_94_70, zs_94_73, zs_94_74, zs_94_76, zs_94_78, zs_94_81, zs_94_83, zs_94_85, zs_94_86, zs_94_88, zs_94_91, zs_94_93, zs_94_96, zs_94_98, zs_94_100, zs_94_102, zs_94_104, zs_94_105, zs_94_107, zs_94_110, zs_94_113, zs_94_115, zs_94_117, zs_94_119, zs_94_121, zs_94_123, zs_94_126, zs_94_127, zs_94_129, zs_94_130, zs_94_131, zs_94_132, zs_94_135, zs_94_138, zs_94_139, zs_94_142, zs_94_143, zs_94_146, zTre_rc hf, zTre_rc ho, zAl_rc ha, d_184 hf hnd, d_186 hf hnd, d_187 hf hnd, ex, ey, if_neg h1, if_neg h2, if_neg h3, if_neg h4, e8, e, zbk_v, zts_s, ↓reduceIte]
end ZDQ

section ZDR
variable {sv : Nat → Value} {d : Nat}
theorem d_93l {f m o al : Nat} {ns : List yN} {c : Int32} (hwf : ywf ns) (hn : ns.length ≤ 31) (h1 : f + 9 ≤ o ∨ o + 9 ≤ f) (h2 : f + 9 ≤ al ∨ al + 3 ≤ f) (h3 : o + 9 ≤ al ∨ al + 3 ≤ o) {B : Nat} (hB : ∀ (j : Nat) (t : yT), (ytm ns)[j]? = some t → ydp (yder c t) ≤ B) : ∀ n i (h : zH) (e0 : List yN) (P : List Int32), i + n = ns.length → e0.length ≤ 3 * i → ywf (ns ++ e0) → yBd B (ns ++ e0) → zTre h f m ns → zTre h o 124 (ns ++ e0) → zAl h al P → yP2 (yder c) ns (ns ++ e0) P i → ∃ h' e' P', zrun zP sv (zcall zP sv (d + 4)) 93 8 [.val (.ref al), .val (.ref f), .val (.int c), .val (.ref o), .val (.int (nI i))] [] h = zrun zP sv (zcall zP sv (d + 4)) 93 41 [.val (.ref al), .val (.ref f), .val (.int c), .val (.ref o), .val (.int (nI ns.length))] [] h' ∧ e'.length ≤ 3 * ns.length ∧ ywf (ns ++ e') ∧ yBd B (ns ++ e') ∧ zTre h' o 124 (ns ++ e') ∧ zAl h' al P' ∧ yP2 (yder c) ns (ns ++ e') P' ns.length ∧ zf2 o (o + 9) al (al + 3) h h' := by
  intro n
  induction n with
  | zero =>
    intro i h e0 P hi he hw hbd hf ho ha hp
    obtain rfl : i = ns.length := by omega
    refine ⟨h, e0, P, ?_, he, hw, hbd, ho, ha, hp, zf2_rfl⟩
    rw [zs_93_8, zs_93_10, zs_93_11, zTre_rc hf, d_182 hf, zbk_v, zts_s, zs_93_14, if_neg (nI_nlt (Nat.le_refl _) hwf.1)]
  | succ n ih =>
    intro i h e0 P hi he hw hbd hf ho ha hp
    have hl := hwf.1
    have hlen : (ns ++ e0).length = ns.length + e0.length := List.length_append
    obtain ⟨nd, hnd⟩ := ynd_ex (ns := ns) (i := i) (by omega)
    obtain ⟨h1', e, x, e1, w1, w2, w3, w4, w5, f1, fB⟩ := d_94 (sv := sv) (d := d) hf hwf hnd ha hp ho hw (by omega) h3
    have hb2 := fB B hbd (hB i _ (ytm_at hwf hnd))
    rw [List.append_assoc] at w1 w3 w4 w5 hb2
    have a1 := zAl_fr ha f1 (by omega)
    have e2 := d_166 (sv := sv) (d := d + 3) (x := nI i) (y := x) a1.2.1
    have a2 := zAl_set (x := x) a1 (show i < 2 ^ 31 by omega)
    have f2 : zfr al (al + 3) h1' (zup h1' (al + 1 + 1) (20, (ys P (nI i) x).map Value.int)) := zfr_up (by omega) (by omega)
    have p0 := yP2_app (e := e) hp (by omega)
    rw [List.append_assoc] at p0
    have p1 := yP2_s p0 (ytm_at hwf hnd) (by rw [ha.2.2]; omega) w4 w5
    have hq := zf2_tr (zf2_1 (c := al) (e := al + 3) f1) (zf2_2 (a := o) (b := o + 9) f2)
    obtain ⟨h', e', P', e3, v1, v2, vB, v3, v4, v5, v6⟩ := ih (i + 1) _ (e0 ++ e) (P.set i x) (by omega) (by rw [List.length_append]; omega) w3 hb2 (zTre_cg hf (zcg_f2 hq (by omega) (by omega))) (zTre_fr w1 f2 (by omega)) a2 p1
    refine ⟨h', e', P', ?_, v1, v2, vB, v3, v4, v5, zf2_tr hq v6⟩
    have q0 := ha.1
    rw [zs_93_8, zs_93_10, zs_93_11, zTre_rc hf, d_182 hf, zbk_v, zts_s, zs_93_14, if_pos (nI_lt (by omega) hl)]
    simp only [zs_93_0, zs_93_1, zs_93_2, zs_93_5, zs_93_6, zs_93_10, zs_93_11, zs_93_14, zs_93_17, zs_93_18, zs_93_21, zs_93_23, zs_93_24, zs_93_25, zs_93_27, zs_93_28, zs_93_29, zs_93_32, zs_93_35, zs_93_42, zs_93_43, zs_93_46, zs_93_49, q0, zrc_9, zf_9_0, zp_9_0, zp_9_0n, zAl_rc ha, e1, zRow_rc a1.2.1, e2, zbk_v, zts_s, zts_n]
    rw [zs_93_38, nI_1', e3]
theorem d_93 {h : zH} {f m o al : Nat} {ns ms : List yN} {P : List Int32} {c : Int32} (hwf : ywf ns) (hn : ns.length ≤ 31) (h0 : 0 < ns.length) (h1 : f + 9 ≤ o ∨ o + 9 ≤ f) (h2 : f + 9 ≤ al ∨ al + 3 ≤ f) (h3 : o + 9 ≤ al ∨ al + 3 ≤ o) (hf : zTre h f m ns) (ho : zTre h o 124 ms) (ha : zAl h al P) {B : Nat} (hB : ∀ (j : Nat) (t : yT), (ytm ns)[j]? = some t → ydp (yder c t) ≤ B) (hB2 : yBd B ns) : ∃ h' os' P' x, zcall zP sv (d + 5) 93 [.ref al, .ref f, .int c, .ref o] h = some (.inl (some (.int x)), h') ∧ os'.length ≤ 124 ∧ ywf os' ∧ yBd B os' ∧ zTre h' o 124 os' ∧ zAl h' al P' ∧ ych os'.length x ∧ ygt (ytm os') x = yder c (ygt (ytm ns) (nI (ns.length - 1))) ∧ zf2 o (o + 9) al (al + 3) h h' := by
  have hl := hwf.1
  obtain ⟨h1', e1, w1, f1⟩ := d_195 (sv := sv) (d := d + 1) ho hf (by omega) (by omega)
  obtain ⟨h', e', P', e2, v1, v2, vB, v3, v4, v5, v6⟩ := d_93l (sv := sv) (d := d) (c := c) hwf hn h1 h2 h3 hB ns.length 0 h1' [] P (Nat.zero_add _) (Nat.zero_le _) (by rw [List.append_nil]; exact hwf) (by rw [List.append_nil]; exact hB2) (zTre_fr hf f1 (by omega)) (by rw [List.append_nil]; exact w1) (zAl_fr ha f1 (by omega)) yP2_0
  rw [nI_0] at e2
  have hsb : nI ns.length - nI 1 = nI (ns.length - 1) := by
    conv => lhs; rw [show ns.length = ns.length - 1 + 1 by omega, ← nI_add, Int32.add_sub_cancel]
  have hf' := zTre_cg (zTre_fr hf f1 (by omega)) (zcg_f2 v6 (by omega) (by omega))
  obtain ⟨x, ex, x1, x2⟩ := d_91 (sv := sv) (d := d + 2) v4 v5 (Or.inr ⟨ns.length - 1, by omega, rfl⟩) (Nat.le_refl _) hl rfl
  refine ⟨h', ns ++ e', P', x, ?_, by rw [List.length_append]; omega, v2, vB, v3, v4, x1, x2, zf2_tr (zf2_1 f1) v6⟩
  rw [zc_93, zs_93_0, zs_93_1, zs_93_2, zTre_rc ho, e1, zbk_v, zts_n, zs_93_5, zs_93_6 znw_u, e2]
  simp only [zs_93_0, zs_93_1, zs_93_2, zs_93_5, zs_93_6, zs_93_8, zs_93_10, zs_93_11, zs_93_14, zs_93_17, zs_93_18, zs_93_21, zs_93_23, zs_93_24, zs_93_25, zs_93_27, zs_93_28, zs_93_29, zs_93_32, zs_93_35, zs_93_38, zs_93_41, zs_93_42, zs_93_43, zs_93_46, zs_93_49, zTre_rc hf', d_183 hf', hsb, zAl_rc v4, ex, zbk_v, zts_s]
theorem d_92l {f m o al : Nat} {ns rs : List yN} {c : Int32} {b : Nat} {w : yT} (hwf : ywf ns) (hn : ns.length ≤ 31) (hr : rs.length ≤ 31) (hwr : ywf rs) (hb : b < rs.length) (hbw : ygt (ytm rs) (nI b) = w) (h1 : f + 9 ≤ o ∨ o + 9 ≤ f) (h2 : f + 9 ≤ al ∨ al + 3 ≤ f) (h3 : o + 9 ≤ al ∨ al + 3 ≤ o) {rp : Slot} : ∀ n i (h : zH) (e0 : List yN) (P : List Int32), i + n = ns.length → e0.length ≤ i → ywf (rs ++ e0) → zTre h f m ns → zTre h o 124 (rs ++ e0) → zAl h al P → yP2 (yins c w) ns (rs ++ e0) P i → ∃ h' e' P', zrun zP sv (zcall zP sv (d + 4)) 92 16 [.val (.ref al), .val (.ref f), .val (.int c), rp, .val (.ref o), .val (.int (nI b)), .val (.int (nI i))] [] h = zrun zP sv (zcall zP sv (d + 4)) 92 101 [.val (.ref al), .val (.ref f), .val (.int c), rp, .val (.ref o), .val (.int (nI b)), .val (.int (nI ns.length))] [] h' ∧ e'.length ≤ ns.length ∧ ywf (rs ++ e') ∧ zTre h' o 124 (rs ++ e') ∧ zAl h' al P' ∧ yP2 (yins c w) ns (rs ++ e') P' ns.length ∧ zf2 o (o + 9) al (al + 3) h h' := by
  intro n
  induction n with
  | zero =>
    intro i h e0 P hi he hw hf ho ha hp
    obtain rfl : i = ns.length := by omega
    refine ⟨h, e0, P, ?_, he, hw, ho, ha, hp, zf2_rfl⟩
    simp only [zs_92_0, zs_92_2, zs_92_3, zs_92_6, zs_92_8, zs_92_11, zs_92_13, zs_92_14, zs_92_16, zs_92_18, zs_92_19, zs_92_22, zs_92_25, zs_92_26, zs_92_28, zs_92_29, zs_92_32, zs_92_35, zs_92_36, zs_92_39, zs_92_41, zs_92_43, zs_92_46, zs_92_49, zs_92_50, zs_92_53, zs_92_55, zs_92_57, zs_92_58, zs_92_60, zs_92_63, zs_92_64, zs_92_66, zs_92_69, zs_92_70, zs_92_71, zs_92_73, zs_92_76, zs_92_79, zs_92_80, zs_92_81, zs_92_83, zs_92_86, zs_92_89, zs_92_92, zs_92_95, zs_92_98, zs_92_102, zs_92_103, zs_92_106, zs_92_109, zTre_rc hf, d_182 hf, zbk_v, zts_s, if_neg (nI_nlt (Nat.le_refl ns.length) hwf.1)]
  | succ n ih =>
    intro i h e0 P hi he hw hf ho ha hp
    have hl := hwf.1
    have hlen : (rs ++ e0).length = rs.length + e0.length := List.length_append
    obtain ⟨nd, hnd⟩ := ynd_ex (ns := ns) (i := i) (by omega)
    have f0 : nI i < nI ns.length := nI_lt (by omega) hl
    have q0 := ha.1
    have e8 := d_188 (sv := sv) (d := d + 1) (c := c) hf hnd
    by_cases h5 : nd.1 = nI 118 ∧ nd.2.1 = c
    · rw [if_pos h5] at e8
      have e2 := d_166 (sv := sv) (d := d + 3) (x := nI i) (y := nI b) ha.2.1
      have a2 := zAl_set (x := nI b) ha (show i < 2 ^ 31 by omega)
      have f2 : zfr al (al + 3) h (zup h (al + 1 + 1) (20, (ys P (nI i) (nI b)).map Value.int)) := zfr_up (by omega) (by omega)
      have p1 := yP2_s hp (ytm_at hwf hnd) (by rw [ha.2.2]; omega) (Or.inr ⟨b, by omega, rfl⟩) (by rw [yins_mk, if_pos h5, ygt_pre hwr.1 (Or.inr ⟨b, hb, rfl⟩), hbw])
      have hq := zf2_2 (a := o) (b := o + 9) f2
      obtain ⟨h', e', P', e3, v1, v2, v3, v4, v5, v6⟩ := ih (i + 1) _ e0 (P.set i (nI b)) (by omega) (by omega) hw (zTre_fr hf f2 (by omega)) (zTre_fr ho f2 (by omega)) a2 p1
      refine ⟨h', e', P', ?_, v1, v2, v3, v4, v5, zf2_tr hq v6⟩
      simp only [zs_92_0, zs_92_2, zs_92_3, zs_92_6, zs_92_8, zs_92_11, zs_92_13, zs_92_14, zs_92_16, zs_92_18, zs_92_19, zs_92_22, zs_92_25, zs_92_26, zs_92_28, zs_92_29, zs_92_32, zs_92_35, zs_92_36, zs_92_39, zs_92_41, zs_92_43, zs_92_46, zs_92_49, zs_92_50, zs_92_53, zs_92_55, zs_92_57, zs_92_58, zs_92_60, zs_92_63, zs_92_64, zs_92_66, zs_92_69, zs_92_70, zs_92_71, zs_92_73, zs_92_76, zs_92_79, zs_92_80, zs_92_81, zs_92_83, zs_92_86, zs_92_89, zs_92_92, zs_92_95, zs_92_102, zs_92_103, zs_92_106, zs_92_109, zTre_rc hf, d_182 hf, if_pos f0, e8, nI_1e0, ↓reduceIte, q0, zrc_9, zf_9_0, zp_9_0, zp_9_0n, zAl_rc ha, zRow_rc ha.2.1, e2, zbk_v, zts_s, zts_n]
      rw [zs_92_98, nI_1', e3]
    · rw [if_neg h5] at e8
      have hc := hwf.2 i nd hnd
      obtain ⟨x, exu, x1, x2⟩ := d_91u (sv := sv) (al := al) hp hc.1 (by omega) hl rfl
      obtain ⟨y, eyu, y1, y2⟩ := d_91u (sv := sv) (al := al) hp hc.2 (by omega) hl rfl
      have ex := exu h (d + 2) ha
      have ey := eyu h (d + 2) ha
      obtain ⟨h1', e1, w1, f1⟩ := d_191 (sv := sv) (d := d + 2) (k := nd.1) (n := nd.2.1) (l := x) (r := y) ho (by omega)
      have w3 := ywf_snoc (nd := (nd.1, nd.2.1, x, y)) hw x1 y1 (by omega)
      have w4 : ygt (ytm (rs ++ e0 ++ [(nd.1, nd.2.1, x, y)])) (nI (rs ++ e0).length) = yins c w (ymk nd.1 nd.2.1 (ygt (ytm ns) nd.2.2.1) (ygt (ytm ns) nd.2.2.2)) := by
        rw [ygt_new (by omega), yins_mk, if_neg h5, ← x2, ← y2]
      have a1 := zAl_fr ha f1 (by omega)
      have e2 := d_166 (sv := sv) (d := d + 3) (x := nI i) (y := nI (rs ++ e0).length) a1.2.1
      have a2 := zAl_set (x := nI (rs ++ e0).length) a1 (show i < 2 ^ 31 by omega)
      have f2 : zfr al (al + 3) h1' (zup h1' (al + 1 + 1) (20, (ys P (nI i) (nI (rs ++ e0).length)).map Value.int)) := zfr_up (by omega) (by omega)
      have p1 := yP2_s (yP2_app (e := [(nd.1, nd.2.1, x, y)]) hp (by omega)) (ytm_at hwf hnd) (by rw [ha.2.2]; omega) ych_snoc w4
      have hq := zf2_tr (zf2_1 (c := al) (e := al + 3) f1) (zf2_2 (a := o) (b := o + 9) f2)
      rw [List.append_assoc] at w1 w3 p1
      obtain ⟨h', e', P', e3, v1, v2, v3, v4, v5, v6⟩ := ih (i + 1) _ (e0 ++ [(nd.1, nd.2.1, x, y)]) (P.set i (nI (rs ++ e0).length)) (by omega) (by rw [List.length_append]; show e0.length + 1 ≤ _; omega) w3 (zTre_cg hf (zcg_f2 hq (by omega) (by omega))) (zTre_fr w1 f2 (by omega)) a2 p1
      refine ⟨h', e', P', ?_, v1, v2, v3, v4, v5, zf2_tr hq v6⟩
      simp only [zs_92_0, zs_92_2, zs_92_3, zs_92_6, zs_92_8, zs_92_11, zs_92_13, zs_92_14, zs_92_16, zs_92_18, zs_92_19, zs_92_22, zs_92_25, zs_92_26, zs_92_28, zs_92_29, zs_92_32, zs_92_35, zs_92_36, zs_92_39, zs_92_41, zs_92_43, zs_92_46, zs_92_49, zs_92_50, zs_92_53, zs_92_55, zs_92_57, zs_92_58, zs_92_60, zs_92_63, zs_92_64, zs_92_66, zs_92_69, zs_92_70, zs_92_71, zs_92_73, zs_92_76, zs_92_79, zs_92_80, zs_92_81, zs_92_83, zs_92_86, zs_92_89, zs_92_92, zs_92_95, zs_92_102, zs_92_103, zs_92_106, zs_92_109, zTre_rc hf, zTre_rc ho, d_182 hf, if_pos f0, e8, ↓reduceIte, q0, zrc_9, zf_9_0, zp_9_0, zp_9_0n, zAl_rc ha, d_184 hf hnd, d_185 hf hnd, d_186 hf hnd, d_187 hf hnd, ex, ey, e1, zRow_rc a1.2.1, e2, zbk_v, zts_s, zts_n]
      rw [zs_92_98, nI_1', e3]
theorem d_92 {h : zH} {f m o al r mr : Nat} {ns ms rs : List yN} {P : List Int32} {c : Int32} (hwf : ywf ns) (hn : ns.length ≤ 31) (h0 : 0 < ns.length) (hwr : ywf rs) (hr : rs.length ≤ 31) (hr0 : 0 < rs.length) (h1 : f + 9 ≤ o ∨ o + 9 ≤ f) (h2 : f + 9 ≤ al ∨ al + 3 ≤ f) (h3 : o + 9 ≤ al ∨ al + 3 ≤ o) (h4 : o + 9 ≤ r ∨ r + 9 ≤ o) (hf : zTre h f m ns) (hrt : zTre h r mr rs) (ho : zTre h o 124 ms) (ha : zAl h al P) : ∃ h' os' P' x, zcall zP sv (d + 5) 92 [.ref al, .ref f, .int c, .ref r, .ref o] h = some (.inl (some (.int x)), h') ∧ os'.length ≤ 62 ∧ ywf os' ∧ zTre h' o 124 os' ∧ zAl h' al P' ∧ ych os'.length x ∧ ygt (ytm os') x = yins c (ygt (ytm rs) (nI (rs.length - 1))) (ygt (ytm ns) (nI (ns.length - 1))) ∧ zf2 o (o + 9) al (al + 3) h h' := by
  have hl := hwf.1
  obtain ⟨h1', e1, w1, f1⟩ := d_195 (sv := sv) (d := d + 1) ho hrt (by omega) (by omega)
  have hsb : ∀ n, 0 < n → nI n - nI 1 = nI (n - 1) := fun n hn => by
    conv => lhs; rw [show n = n - 1 + 1 by omega, ← nI_add, Int32.add_sub_cancel]
  obtain ⟨h', e', P', e2, v1, v2, v3, v4, v5, v6⟩ := d_92l (sv := sv) (d := d) (c := c) (rp := .val (.ref r)) hwf hn hr hwr (show rs.length - 1 < rs.length by omega) rfl h1 h2 h3 ns.length 0 h1' [] P (Nat.zero_add _) (Nat.zero_le _) (by rw [List.append_nil]; exact hwr) (zTre_fr hf f1 (by omega)) (by rw [List.append_nil]; exact w1) (zAl_fr ha f1 (by omega)) yP2_0
  rw [nI_0] at e2
  have hf' := zTre_cg (zTre_fr hf f1 (by omega)) (zcg_f2 v6 (by omega) (by omega))
  obtain ⟨x, ex, x1, x2⟩ := d_91 (sv := sv) (d := d + 2) v4 v5 (Or.inr ⟨ns.length - 1, by omega, rfl⟩) (Nat.le_refl _) hl rfl
  refine ⟨h', rs ++ e', P', x, ?_, by rw [List.length_append]; omega, v2, v3, v4, x1, x2, zf2_tr (zf2_1 f1) v6⟩
  rw [zc_92]
  simp (disch := exact znw_u) only [zs_92_0, zs_92_2, zs_92_3, zs_92_6, zs_92_8, zs_92_11, zs_92_13, zs_92_14, zs_92_18, zs_92_19, zs_92_22, zs_92_25, zs_92_26, zs_92_28, zs_92_29, zs_92_32, zs_92_35, zs_92_36, zs_92_39, zs_92_41, zs_92_43, zs_92_46, zs_92_49, zs_92_50, zs_92_53, zs_92_55, zs_92_57, zs_92_58, zs_92_60, zs_92_63, zs_92_64, zs_92_66, zs_92_69, zs_92_70, zs_92_71, zs_92_73, zs_92_76, zs_92_79, zs_92_80, zs_92_81, zs_92_83, zs_92_86, zs_92_89, zs_92_92, zs_92_95, zs_92_98, zs_92_101, zs_92_102, zs_92_103, zs_92_106, zs_92_109, zTre_rc ho, e1, zTre_rc w1, d_183 w1, hsb _ hr0, e2, zbk_v, zts_s, zts_n]
  simp only [zs_92_0, zs_92_2, zs_92_3, zs_92_6, zs_92_8, zs_92_11, zs_92_13, zs_92_14, zs_92_16, zs_92_18, zs_92_19, zs_92_22, zs_92_25, zs_92_26, zs_92_28, zs_92_29, zs_92_32, zs_92_35, zs_92_36, zs_92_39, zs_92_41, zs_92_43, zs_92_46, zs_92_49, zs_92_50, zs_92_53, zs_92_55, zs_92_57, zs_92_58, zs_92_60, zs_92_63, zs_92_64, zs_92_66, zs_92_69, zs_92_70, zs_92_71, zs_92_73, zs_92_76, zs_92_79, zs_92_80, zs_92_81, zs_92_83, zs_92_86, zs_92_89, zs_92_92, zs_92_95, zs_92_98, zs_92_101, zs_92_102, zs_92_103, zs_92_106, zs_92_109, zTre_rc hf', d_183 hf', hsb _ h0, zAl_rc v4, ex, zbk_v, zts_s]
end ZDR

def ychr (x : Int32) : Prop := zty 7 (.int x) = true
def ycat (cs : List Int32) (i : Nat) : Int32 := cs.getD i (nI 32)
/-- the input buffer at q; cs: what it holds -/
def zInp (h : zH) (q : Nat) (cs : List Int32) : Prop := h.1 q = (8, [.ref (q + 1), .int (nI cs.length)]) ∧ (∃ B : List Int32, h.1 (q + 1) = (21, B.map Value.int) ∧ B.length = 60 ∧ B.take cs.length = cs) ∧ cs.length ≤ 60 ∧ ∀ x, x ∈ cs → ychr x
theorem zInp_rc {h : zH} {q : Nat} {cs : List Int32} {X : zR} (hi : zInp h q cs) : zrc (h.1 q) 8 X = X := by
  rw [hi.1]
  exact zrc_k
theorem zInp_cg {h h' : zH} {q : Nat} {cs : List Int32} (hi : zInp h q cs) (hf : zcg q (q + 2) h h') : zInp h' q cs := by
  obtain ⟨h1, ⟨B, h2, h3⟩, h4⟩ := hi
  exact ⟨by rw [hf q (by omega) (by omega), h1], ⟨B, by rw [hf (q + 1) (by omega) (by omega), h2], h3⟩, h4⟩
theorem ycat_chr {cs : List Int32} (hc : ∀ x, x ∈ cs → ychr x) (i : Nat) : ychr (ycat cs i) := by
  unfold ycat
  rw [List.getD_eq_getElem?_getD]
  cases h : cs[i]? with
  | none => exact (by decide +kernel : zty 7 (.int (nI 32)) = true)
  | some x => exact hc x (List.mem_of_getElem? h)
/-- the parser at p -/
def zPar (h : zH) (p : Nat) (cs : List Int32) (pos : Nat) (ns : List yN) : Prop := h.1 p = (7, [.ref (p + 1), .ref (p + 3), .int (nI pos)]) ∧ zInp h (p + 1) cs ∧ zTre h (p + 3) 60 ns
theorem zPar_rc {h : zH} {p pos : Nat} {cs : List Int32} {ns : List yN} {X : zR} (hp : zPar h p cs pos ns) : zrc (h.1 p) 7 X = X := by
  rw [hp.1]
  exact zrc_k
theorem zPar_pos {h : zH} {p pos pos' : Nat} {cs : List Int32} {ns : List yN} (hp : zPar h p cs pos ns) : zPar (zup h p (7, [.ref (p + 1), .ref (p + 3), .int (nI pos')])) p cs pos' ns := ⟨zup_at, zInp_cg hp.2.1 (fun q a b => zup_ne (by omega)), zTre_fr hp.2.2 (zfr_up (lo := p) (hi := p + 1) (by omega) (by omega)) (by omega)⟩
theorem zPar_tree {h h' : zH} {p pos : Nat} {cs : List Int32} {ns ns' : List yN} (hp : zPar h p cs pos ns) (hf : zfr (p + 3) (p + 3 + 9) h h') (ht : zTre h' (p + 3) 60 ns') : zPar h' p cs pos ns' := ⟨by rw [hf.1 p (by omega), hp.1], zInp_cg hp.2.1 (zcg_fr hf (by omega)), ht⟩
theorem zPar_cg {h h' : zH} {p pos : Nat} {cs : List Int32} {ns : List yN} (hp : zPar h p cs pos ns) (hf : zcg p (p + 12) h h') : zPar h' p cs pos ns := ⟨by rw [hf p (by omega) (by omega), hp.1], zInp_cg hp.2.1 (zcg_mono hf (by omega) (by omega)), zTre_cg hp.2.2 (zcg_mono hf (by omega) (by omega))⟩
def yisd (c : Int32) : Bool := decide (¬ c < nI 48) && decide (¬ nI 57 < c)
theorem ylt_f {x y : Int32} (h : ¬ x < y) : (x < y) = False := by simp [h]
section ZDS
variable {sv : Nat → Value} {d : Nat} {h : zH}
theorem d_141 {q i : Nat} {cs : List Int32} (hi : zInp h q cs) (hl : i < 2 ^ 31) : zcall zP sv (d + 1) 141 [.ref q, .int (nI i)] h = some (.inl (some (.int (ycat cs i))), h) := by
  have hc := ycat_chr hi.2.2.2 i
  obtain ⟨h1, ⟨B, h2, h3, h4⟩, h5, h6⟩ := hi
  have g1 : ¬ nI i < 0 := nI_pos hl
  by_cases h7 : i < cs.length
  · have hx : cs[i]? = some (ycat cs i) := by
      unfold ycat
      rw [List.getD_eq_getElem?_getD, List.getElem?_eq_getElem h7]; rfl
    have hB := ytk_at h4 hx
    have g2 : nI i < nI cs.length := nI_lt h7 (by omega)
    have g3 : nI i < nI 60 := nI_lt (by omega) (by decide)
    have e1 : ∀ K : Value → zR, zael (21, B.map Value.int) 21 (nI i) K = K (.int (ycat cs i)) := fun K => zaelv (by rw [List.getElem?_map, hB]; rfl) hl
    have e2 : zty 7 (.int (ycat cs i)) = true := hc
    simp only [zc_141, zs_141_0, zs_141_1, zs_141_4, zs_141_5, zs_141_6, zs_141_9, zs_141_12, zs_141_13, zs_141_14, zs_141_17, zs_141_18, zs_141_21, zs_141_22, zs_141_25, zs_141_26, zs_141_27, zs_141_30, zs_141_32, if_neg g1, h1, zrc_8, zf_8_0, zp_8_0, zp_8_0n, zf_8_1, zp_8_1, if_pos g2, h2, zaln_k (show 20 ≤ 21 by decide), List.length_map, h3, if_pos g3, e1, e2, zgd_t]
  · have g2 : ¬ nI i < nI cs.length := nI_nlt (by omega) hl
    have e3 : ycat cs i = nI 32 := by
      unfold ycat
      rw [List.getD_eq_getElem?_getD, List.getElem?_eq_none (by omega)]; rfl
    have e2 : zty 7 (.int (nI 32)) = true := by decide +kernel
    simp only [zc_141, zs_141_0, zs_141_1, zs_141_4, zs_141_5, zs_141_6, zs_141_9, zs_141_12, zs_141_13, zs_141_14, zs_141_17, zs_141_18, zs_141_21, zs_141_22, zs_141_25, zs_141_26, zs_141_27, zs_141_30, zs_141_32, if_neg g1, h1, zrc_8, zf_8_0, zp_8_0, zp_8_0n, zf_8_1, zp_8_1, if_neg g2, e3, e2, zgd_t]
theorem d_138 {q : Nat} {cs : List Int32} (hi : zInp h q cs) : zcall zP sv (d + 1) 138 [.ref q] h = some (.inl (some (.int (nI cs.length))), h) := by
  simp only [zc_138, zs_138_0, zs_138_1, zs_138_4, hi.1, zrc_8, zf_8_0, zp_8_0, zp_8_0n, zf_8_1, zp_8_1]
theorem d_140 {q : Nat} {cs : List Int32} (hi : zInp h q cs) : ∃ h', zcall zP sv (d + 1) 140 [.ref q] h = some (.inl none, h') ∧ zInp h' q [] ∧ zfr q (q + 1) h h' := by
  obtain ⟨h1, ⟨B, h2, h3, h4⟩, h5, h6⟩ := hi
  refine ⟨zup h q (8, [.ref (q + 1), .int 0]), ?_, ⟨by rw [zup_at, List.length_nil, nI_0], ⟨B, by rw [zup_ne (by omega), h2], h3, rfl⟩, by decide, fun x hx => by cases hx⟩, zfr_up (by omega) (by omega)⟩
  simp only [zc_140, zs_140_0, zs_140_1, zs_140_2, zs_140_5, h1, zrc_8, zf_8_0, zp_8_0, zp_8_0n, zf_8_1, zp_8_1]
theorem d_160 {p pos : Nat} {cs : List Int32} {ns : List yN} (hp : zPar h p cs pos ns) (hl : pos < 100) : ∃ h', zcall zP sv (d + 2) 160 [.ref p] h = some (.inl (some (.int (ycat cs pos))), h') ∧ zPar h' p cs (pos + 1) ns ∧ zfr p (p + 12) h h' := by
  have e2 : zty 7 (.int (ycat cs pos)) = true := ycat_chr hp.2.1.2.2.2 pos
  have h0 := hp.1
  refine ⟨_, ?_, zPar_pos (pos' := pos + 1) hp, zfr_up (by omega) (by omega)⟩
  simp (disch := exact znw_u) only [zc_160, zs_160_0, zs_160_1, zs_160_4, zs_160_5, zs_160_8, zs_160_11, zs_160_12, zs_160_13, zs_160_14, zs_160_17, zs_160_18, zs_160_19, zs_160_22, zs_160_23, h0, zrc_7, zf_7_0, zp_7_0, zp_7_0n, zf_7_1, zp_7_1, zp_7_1n, zf_7_2, zp_7_2, zInp_rc hp.2.1, d_141 hp.2.1 (show pos < 2 ^ 31 by omega), nI_1', e2, zgd_t, zbk_v, zts_s]
theorem d_161 {p pos : Nat} {cs : List Int32} {ns : List yN} (hp : zPar h p cs pos ns) (hl : pos < 100) : ∃ h', zcall zP sv (d + 2) 161 [.ref p] h = some (.inl (some (.int (ycat cs pos - nI 48))), h') ∧ zPar h' p cs (pos + 1) ns ∧ zfr p (p + 12) h h' := by
  have h0 := hp.1
  refine ⟨_, ?_, zPar_pos (pos' := pos + 1) hp, zfr_up (by omega) (by omega)⟩
  simp (disch := exact znw_u) only [zc_161, zs_161_0, zs_161_1, zs_161_4, zs_161_5, zs_161_8, zs_161_11, zs_161_13, zs_161_14, zs_161_15, zs_161_16, zs_161_17, zs_161_20, zs_161_21, zs_161_22, zs_161_25, zs_161_26, h0, zrc_7, zf_7_0, zp_7_0, zp_7_0n, zf_7_1, zp_7_1, zp_7_1n, zf_7_2, zp_7_2, zInp_rc hp.2.1, d_141 hp.2.1 (show pos < 2 ^ 31 by omega), nI_1', zbk_v, zts_s]
theorem d_162 {p pos : Nat} {cs : List Int32} {ns : List yN} (hp : zPar h p cs pos ns) (hl : pos < 100) : zcall zP sv (d + 2) 162 [.ref p] h = some (.inl (some (.int (yb (yisd (ycat cs pos))))), h) := by
  have h0 := hp.1
  unfold yisd
  by_cases h1 : ycat cs pos < nI 48
  · simp (disch := exact znw_u) only [zc_162, zs_162_0, zs_162_1, zs_162_4, zs_162_5, zs_162_8, zs_162_11, zs_162_12, zs_162_13, zs_162_15, zs_162_18, zs_162_19, zs_162_21, zs_162_24, zs_162_25, zs_162_28, zs_162_29, h0, zrc_7, zf_7_0, zp_7_0, zp_7_0n, zf_7_1, zp_7_1, zp_7_1n, zf_7_2, zp_7_2, zInp_rc hp.2.1, d_141 hp.2.1 (show pos < 2 ^ 31 by omega), zty_50, zgd_t, zbk_v, zts_s, h1, not_true, decide_false, Bool.false_and, yb_f, ↓reduceIte]
  · by_cases h2 : nI 57 < ycat cs pos
    · simp (disch := exact znw_u) only [zc_162, zs_162_0, zs_162_1, zs_162_4, zs_162_5, zs_162_8, zs_162_11, zs_162_12, zs_162_13, zs_162_15, zs_162_18, zs_162_19, zs_162_21, zs_162_24, zs_162_25, zs_162_28, zs_162_29, h0, zrc_7, zf_7_0, zp_7_0, zp_7_0n, zf_7_1, zp_7_1, zp_7_1n, zf_7_2, zp_7_2, zInp_rc hp.2.1, d_141 hp.2.1 (show pos < 2 ^ 31 by omega), ylt_f h1, zty_50, zgd_t, zbk_v, zts_s, h2, not_true, decide_false, Bool.and_false, yb_f, ↓reduceIte]
    · simp (disch := exact znw_u) only [zc_162, zs_162_0, zs_162_1, zs_162_4, zs_162_5, zs_162_8, zs_162_11, zs_162_12, zs_162_13, zs_162_15, zs_162_18, zs_162_19, zs_162_21, zs_162_24, zs_162_25, zs_162_28, zs_162_29, h0, zrc_7, zf_7_0, zp_7_0, zp_7_0n, zf_7_1, zp_7_1, zp_7_1n, zf_7_2, zp_7_2, zInp_rc hp.2.1, d_141 hp.2.1 (show pos < 2 ^ 31 by omega), zty_51, zgd_t, zbk_v, zts_s, ylt_f h1, ylt_f h2, not_false_eq_true, decide_true, Bool.and_self, yb_t, ↓reduceIte]
theorem d_163 {p pos : Nat} {cs : List Int32} {ns : List yN} {a b : Int32} (hp : zPar h p cs pos ns) (hl : pos < 100) : zcall zP sv (d + 2) 163 [.ref p, .int a, .int b] h = some (.inl (some (.int (yb (decide (ycat cs pos = a) || decide (ycat cs pos = b))))), h) := by
  have h0 := hp.1
  by_cases h1 : ycat cs pos = a
  · simp (disch := exact znw_u) only [zc_163, zs_163_0, zs_163_1, zs_163_4, zs_163_5, zs_163_8, zs_163_11, zs_163_12, zs_163_13, zs_163_14, zs_163_17, zs_163_18, zs_163_19, zs_163_22, zs_163_23, zs_163_26, zs_163_27, h0, zrc_7, zf_7_0, zp_7_0, zp_7_0n, zf_7_1, zp_7_1, zp_7_1n, zf_7_2, zp_7_2, zInp_rc hp.2.1, d_141 hp.2.1 (show pos < 2 ^ 31 by omega), if_pos h1, zty_51, zgd_t, zbk_v, zts_s, decide_eq_true h1, Bool.true_or, yb_t]
  · by_cases h2 : ycat cs pos = b
    · simp (disch := exact znw_u) only [zc_163, zs_163_0, zs_163_1, zs_163_4, zs_163_5, zs_163_8, zs_163_11, zs_163_12, zs_163_13, zs_163_14, zs_163_17, zs_163_18, zs_163_19, zs_163_22, zs_163_23, zs_163_26, zs_163_27, h0, zrc_7, zf_7_0, zp_7_0, zp_7_0n, zf_7_1, zp_7_1, zp_7_1n, zf_7_2, zp_7_2, zInp_rc hp.2.1, d_141 hp.2.1 (show pos < 2 ^ 31 by omega), if_neg h1, if_pos h2, zty_51, zgd_t, zbk_v, zts_s, decide_eq_true h2, Bool.or_true, yb_t]
    · simp (disch := exact znw_u) only [zc_163, zs_163_0, zs_163_1, zs_163_4, zs_163_5, zs_163_8, zs_163_11, zs_163_12, zs_163_13, zs_163_14, zs_163_17, zs_163_18, zs_163_19, zs_163_22, zs_163_23, zs_163_26, zs_163_27, h0, zrc_7, zf_7_0, zp_7_0, zp_7_0n, zf_7_1, zp_7_1, zp_7_1n, zf_7_2, zp_7_2, zInp_rc hp.2.1, d_141 hp.2.1 (show pos < 2 ^ 31 by omega), if_neg h1, if_neg h2, zty_50, zgd_t, zbk_v, zts_s, decide_eq_false h1, decide_eq_false h2, Bool.or_self, yb_f]
theorem d_159 {p pos : Nat} {cs : List Int32} {ns : List yN} (hp : zPar h p cs pos ns) (hl : pos < 80) (hn : ns.length < 60) : ∃ h' , zcall zP sv (d + 4) 159 [.ref p] h = some (.inl (some (.int (nI ns.length))), h') ∧ zPar h' p cs (pos + 1 + (if yisd (ycat cs (pos + 1)) = true then 1 else 0)) (ns ++ [(nI 99, (if yisd (ycat cs (pos + 1)) = true then nI 10 * (ycat cs pos - nI 48) + (ycat cs (pos + 1) - nI 48) else ycat cs pos - nI 48), -1, -1)]) ∧ zfr p (p + 12) h h' := by
  obtain ⟨h1, e1, w1, f1⟩ := d_161 (sv := sv) (d := d + 1) hp (by omega)
  have e2 := d_162 (sv := sv) (d := d + 1) w1 (by omega)
  cases h3 : yisd (ycat cs (pos + 1)) with
  | true =>
    rw [h3] at e2
    obtain ⟨h2, e4, w2, f2⟩ := d_161 (sv := sv) (d := d + 1) w1 (by omega)
    obtain ⟨h4, e5, w3, f3⟩ := d_192 (sv := sv) (d := d) (x := nI 10 * (ycat cs pos - nI 48) + (ycat cs (pos + 1) - nI 48)) w2.2.2 hn
    refine ⟨h4, ?_, zPar_tree w2 f3 w3, zfr_tr (zfr_tr f1 f2) (zfr_mono f3 (by omega) (by omega))⟩
    have h0 := w2.1
    simp (disch := first | exact znw_u | exact znw_i) only [zc_159, zs_159_0, zs_159_1, zs_159_4, zs_159_5, zs_159_6, zs_159_9, zs_159_12, zs_159_14, zs_159_15, zs_159_16, zs_159_17, zs_159_20, zs_159_21, zs_159_22, zs_159_23, zs_159_26, zs_159_27, zs_159_30, zPar_rc hp, zPar_rc w1, e1, e2, yb_t, nI_1e0, e4, h0, zrc_7, zf_7_0, zp_7_0, zp_7_0n, zf_7_1, zp_7_1, zp_7_1n, zf_7_2, zp_7_2, zTre_rc w2.2.2, e5, zbk_v, zts_s, ↓reduceIte]
  | false =>
    rw [h3] at e2
    obtain ⟨h4, e5, w3, f3⟩ := d_192 (sv := sv) (d := d) (x := ycat cs pos - nI 48) w1.2.2 hn
    refine ⟨h4, ?_, zPar_tree w1 f3 w3, zfr_tr f1 (zfr_mono f3 (by omega) (by omega))⟩
    have h0 := w1.1
    simp (disch := first | exact znw_u | exact znw_i) only [zc_159, zs_159_0, zs_159_1, zs_159_4, zs_159_5, zs_159_6, zs_159_9, zs_159_12, zs_159_14, zs_159_15, zs_159_16, zs_159_17, zs_159_20, zs_159_21, zs_159_22, zs_159_23, zs_159_26, zs_159_27, zs_159_30, zPar_rc hp, zPar_rc w1, e1, e2, yb_f, h0, zrc_7, zf_7_0, zp_7_0, zp_7_0n, zf_7_1, zp_7_1, zp_7_1n, zf_7_2, zp_7_2, zTre_rc w1.2.2, e5, zbk_v, zts_s, ↓reduceIte]
theorem d_155n {p pos : Nat} {cs : List Int32} {ns : List yN} {k x : Int32} (hp : zPar h p cs pos ns) : zcall zP sv (d + 4) 155 [.ref p, .int k, .int x, .int (-1)] h = some (.inl (some (.int (-1))), h) := by
  simp only [zc_155, zs_155_0, zs_155_1, zs_155_2, zs_155_5, zs_155_6, zs_155_9, zs_155_10, zs_155_13, zs_155_14, zs_155_15, zs_155_16, zs_155_19, nI_m1e, ↓reduceIte]
theorem d_155 {p pos : Nat} {cs : List Int32} {ns : List yN} {k x y : Int32} (hp : zPar h p cs pos ns) (hn : ns.length < 60) (hy : ¬ y = -1) : ∃ h', zcall zP sv (d + 4) 155 [.ref p, .int k, .int x, .int y] h = some (.inl (some (.int (nI ns.length))), h') ∧ zPar h' p cs pos (ns ++ [(k, 0, x, y)]) ∧ zfr p (p + 12) h h' := by
  obtain ⟨h', e, w, f⟩ := d_194 (sv := sv) (d := d) (k := k) (x := x) (y := y) hp.2.2 hn
  have h0 := hp.1
  refine ⟨h', ?_, zPar_tree hp f w, zfr_mono f (by omega) (by omega)⟩
  simp only [zc_155, zs_155_0, zs_155_1, zs_155_2, zs_155_5, zs_155_6, zs_155_9, zs_155_10, zs_155_13, zs_155_14, zs_155_15, zs_155_16, zs_155_19, if_neg hy, h0, zrc_7, zf_7_0, zp_7_0, zp_7_0n, zf_7_1, zp_7_1, zp_7_1n, zf_7_2, zp_7_2, zTre_rc hp.2.2, e, zbk_v, zts_s]
end ZDS

/-- the text's grammar: what is read (0 a sum, 1 on from a sum's operand, 2 a product, 3 on from its operand, 4 a factor), with fuel; the term or none, and the place reached -/
def yng (cs : List Int32) : Nat → Nat → Nat
  | _, 0 => 0
  | pos, k + 1 => if ycat cs pos = nI 45 then yng cs (pos + 1) k + 1 else 0
def ywr : Nat → yT → yT
  | 0, t => t
  | n + 1, t => ywr n (ymk (nI 110) 0 t .leaf)
def ylet (c : Int32) : Bool := decide (¬ c < nI 97) && decide (¬ nI 102 < c)
def ynum2 (cs : List Int32) (p : Nat) : Option yT × Nat := if yisd (ycat cs (p + 1)) = true then (some (ycn (nI 10 * (ycat cs p - nI 48) + (ycat cs (p + 1) - nI 48))), p + 2) else (some (ycn (ycat cs p - nI 48)), p + 1)
def ypa (cs : List Int32) : Nat → Nat → Option yT → Nat → Nat → Option yT × Nat
  | 0, _, _, _, pos => (none, pos)
  | f + 1, m, a, op, pos =>
    if m = 0 then ypa cs f 1 (ypa cs f 2 none op pos).1 op (ypa cs f 2 none op pos).2
    else if m = 1 then (match a with
      | none => (none, pos)
      | some t => if ycat cs pos = nI 43 ∨ ycat cs pos = nI 45 then ypa cs f 1 ((ypa cs f 2 none op (pos + 1)).1.map (fun u => ymk (ycat cs pos) 0 t u)) op (ypa cs f 2 none op (pos + 1)).2 else (some t, pos))
    else if m = 2 then ypa cs f 3 (ypa cs f 4 none op pos).1 op (ypa cs f 4 none op pos).2
    else if m = 3 then (match a with
      | none => (none, pos)
      | some t => if ycat cs pos = nI 42 then ypa cs f 3 ((ypa cs f 4 none op (pos + 1)).1.map (fun u => ymk (ycat cs pos) 0 t u)) op (ypa cs f 4 none op (pos + 1)).2 else (some t, pos))
    else
      let n := yng cs pos 6
      let p := pos + n
      let r : Option yT × Nat := if ycat cs p = nI 40 ∧ op < 6 then (if (ypa cs f 0 none (op + 1) (p + 1)).1.isSome = true ∧ ycat cs (ypa cs f 0 none (op + 1) (p + 1)).2 = nI 41 then ((ypa cs f 0 none (op + 1) (p + 1)).1, (ypa cs f 0 none (op + 1) (p + 1)).2 + 1) else (none, (ypa cs f 0 none (op + 1) (p + 1)).2))
        else if ylet (ycat cs p) = true then (some (ymk (nI 118) (ycat cs p) .leaf .leaf), p + 1)
        else if yisd (ycat cs p) = true then ynum2 cs p else (none, p)
      (r.1.map (ywr n), r.2)
/-- an index stands for a term, or is -1 for none -/
def yis1 (ns : List yN) (x : Int32) : Option yT → Prop
  | none => x = -1
  | some t => ¬ x = -1 ∧ ych ns.length x ∧ ygt (ytm ns) x = t
def zPR (h : zH) (p : Nat) (cs : List Int32) (pos : Nat) (ns : List yN) (res : zR) (r : Option yT × Nat) : Prop := ∃ h' e x, res = some (.inl (some (.int x)), h') ∧ zPar h' p cs r.2 (ns ++ e) ∧ e.length + pos ≤ r.2 ∧ ywf (ns ++ e) ∧ r.2 ≤ cs.length ∧ zfr p (p + 12) h h' ∧ yis1 (ns ++ e) x r.1
theorem ycat_ge {cs : List Int32} {i : Nat} (h : cs.length ≤ i) : ycat cs i = nI 32 := by
  unfold ycat
  rw [List.getD_eq_getElem?_getD, List.getElem?_eq_none (by omega)]; rfl
theorem ycat_lt {cs : List Int32} {i : Nat} (h : ¬ ycat cs i = nI 32) : i < cs.length := by
  by_cases h1 : i < cs.length
  · exact h1
  · exact absurd (ycat_ge (by omega)) h
theorem y32 : ¬ (nI 32 : Int32) = nI 43 ∧ ¬ (nI 32 : Int32) = nI 45 ∧ ¬ (nI 32 : Int32) = nI 42 ∧ ¬ (nI 32 : Int32) = nI 40 ∧ ¬ (nI 32 : Int32) = nI 41 ∧ ylet (nI 32) = false ∧ yisd (nI 32) = false := by decide +kernel
theorem yng_le {cs : List Int32} : ∀ k pos, yng cs pos k ≤ k
  | 0, _ => Nat.le_refl _
  | k + 1, pos => by
    unfold yng
    split
    · have := yng_le (cs := cs) k (pos + 1)
      omega
    · exact Nat.zero_le _
theorem yng_len {cs : List Int32} : ∀ k pos, pos ≤ cs.length → pos + yng cs pos k ≤ cs.length
  | 0, _, h => h
  | k + 1, pos, h => by
    unfold yng
    split
    · rename_i h1
      have h2 : pos < cs.length := ycat_lt (fun h3 => y32.2.1 (h3.symm.trans h1))
      have := yng_len (cs := cs) k (pos + 1) h2
      omega
    · exact h
section ZDT
variable {sv : Nat → Value} {d : Nat} {p : Nat} {cs : List Int32} {ns : List yN}
theorem d_156a {op : Int32} {s3 s4 : Slot} : ∀ k n pos (h : zH), n + k = 6 → zPar h p cs pos ns → pos ≤ cs.length → ∃ h', zrun zP sv (zcall zP sv (d + 1)) 156 2 [.val (.ref p), .val (.int op), .val (.int (nI n)), s3, s4] [] h = zrun zP sv (zcall zP sv (d + 1)) 156 40 [.val (.ref p), .val (.int op), .val (.int (nI (n + yng cs pos k))), s3, s4] [] h' ∧ zPar h' p cs (pos + yng cs pos k) ns ∧ zfr p (p + 12) h h' := by
  intro k
  induction k with
  | zero =>
    intro n pos h hn hp hl
    refine ⟨h, ?_, hp, zfr_rfl⟩
    obtain rfl : n = 6 := by omega
    rw [zs_156_2, zs_156_3, zs_156_5, if_neg (nI_nlt (Nat.le_refl _) (by decide))]
    rfl
  | succ k ih =>
    intro n pos h hn hp hl
    have h0 := hp.1
    have h60 := hp.2.1.2.2.1
    unfold yng
    by_cases h1 : ycat cs pos = nI 45
    · have h2 : pos < cs.length := ycat_lt (fun h3 => y32.2.1 (h3.symm.trans h1))
      have w := zPar_pos (pos' := pos + 1) hp
      have f1 : zfr p (p + 12) h (zup h p (7, [.ref (p + 1), .ref (p + 3), .int (nI (pos + 1))])) := zfr_up (by omega) (by omega)
      obtain ⟨h', e, w2, f2⟩ := ih (n + 1) (pos + 1) _ (by omega) w h2
      rw [if_pos h1]
      refine ⟨h', ?_, by rw [show pos + (yng cs (pos + 1) k + 1) = pos + 1 + yng cs (pos + 1) k by omega]; exact w2, zfr_tr f1 f2⟩
      rw [zs_156_2, zs_156_3, zs_156_5, if_pos (nI_lt (by omega) (by decide))]
      simp only [zs_156_0, zs_156_1, zs_156_3, zs_156_5, zs_156_8, zs_156_9, zs_156_12, zs_156_13, zs_156_16, zs_156_19, zs_156_21, zs_156_24, zs_156_27, zs_156_28, zs_156_29, zs_156_32, zs_156_33, zs_156_34, zs_156_41, zs_156_42, zs_156_45, zs_156_46, zs_156_47, zs_156_49, zs_156_51, zs_156_52, zs_156_55, zs_156_56, zs_156_57, zs_156_60, zs_156_61, zs_156_64, zs_156_65, zs_156_68, zs_156_69, zs_156_72, zs_156_75, zs_156_76, h0, zrc_7, zf_7_0, zp_7_0, zp_7_0n, zf_7_1, zp_7_1, zp_7_1n, zf_7_2, zp_7_2, zInp_rc hp.2.1, d_141 hp.2.1 (show pos < 2 ^ 31 by omega), if_pos h1, nI_1', zbk_v, zts_s]
      rw [zs_156_37, e, show n + (yng cs (pos + 1) k + 1) = n + 1 + yng cs (pos + 1) k by omega]
    · rw [if_neg h1]
      refine ⟨h, ?_, hp, zfr_rfl⟩
      rw [zs_156_2, zs_156_3, zs_156_5, if_pos (nI_lt (by omega) (by decide))]
      simp only [zs_156_0, zs_156_1, zs_156_3, zs_156_5, zs_156_8, zs_156_9, zs_156_12, zs_156_13, zs_156_16, zs_156_19, zs_156_21, zs_156_24, zs_156_27, zs_156_28, zs_156_29, zs_156_32, zs_156_33, zs_156_34, zs_156_41, zs_156_42, zs_156_45, zs_156_46, zs_156_47, zs_156_49, zs_156_51, zs_156_52, zs_156_55, zs_156_56, zs_156_57, zs_156_60, zs_156_61, zs_156_64, zs_156_65, zs_156_68, zs_156_69, zs_156_72, zs_156_75, zs_156_76, h0, zrc_7, zf_7_0, zp_7_0, zp_7_0n, zf_7_1, zp_7_1, zp_7_1n, zf_7_2, zp_7_2, zInp_rc hp.2.1, d_141 hp.2.1 (show pos < 2 ^ 31 by omega), if_neg h1, zbk_v, zts_s, Nat.add_zero]
theorem d_156b {op : Int32} {n pos : Nat} (hn6 : n ≤ 6) : ∀ j k (h : zH) (e : List yN) (x : Int32) (t : yT), k + j = n → zPar h p cs pos (ns ++ e) → ywf (ns ++ e) → (ns ++ e).length + j ≤ 60 → yis1 (ns ++ e) x (some t) → ∃ h' e' x', zrun zP sv (zcall zP sv (d + 3)) 156 49 [.val (.ref p), .val (.int op), .val (.int (nI n)), .val (.int x), .val (.int (nI k))] [] h = some (.inl (some (.int x')), h') ∧ zPar h' p cs pos (ns ++ e') ∧ e'.length = e.length + j ∧ ywf (ns ++ e') ∧ zfr p (p + 12) h h' ∧ yis1 (ns ++ e') x' (some (ywr j t)) := by
  intro j
  induction j with
  | zero =>
    intro k h e x t hk hp hw hl hx
    obtain rfl : k = n := by omega
    have hl2 : k < 2 ^ 31 ∨ True := Or.inr trivial
    refine ⟨h, e, x, ?_, hp, rfl, hw, zfr_rfl, hx⟩
    rw [zs_156_49, zs_156_51, zs_156_52, if_neg Int32.lt_irrefl, zs_156_75, zs_156_76]
  | succ j ih =>
    intro k h e x t hk hp hw hl hx
    have h0 := hp.1
    have hlen : (ns ++ e).length = ns.length + e.length := List.length_append
    obtain ⟨h1, e1, w1, f1⟩ := d_193 (sv := sv) (d := d) (x := x) hp.2.2 (by omega)
    have p1 := zPar_tree hp f1 w1
    rw [List.append_assoc] at p1
    have z1 := ywf_snoc (nd := (nI 110, 0, x, -1)) hw hx.2.1 ych_n (by omega)
    have t1 : yis1 (ns ++ e ++ [(nI 110, 0, x, -1)]) (nI (ns ++ e).length) (some (ymk (nI 110) 0 t .leaf)) := ⟨nI_nm1 (by omega), ych_snoc, by rw [ygt_new (by omega), hx.2.2, ygt_n]⟩
    rw [List.append_assoc] at z1 t1
    obtain ⟨h', e', x', e2, p2, l2, z2, f2, t2⟩ := ih (k + 1) h1 (e ++ [(nI 110, 0, x, -1)]) (nI (ns ++ e).length) _ (by omega) p1 z1 (by rw [← List.append_assoc, List.length_append]; show (ns ++ e).length + 1 + j ≤ 60; omega) t1
    refine ⟨h', e', x', ?_, p2, by rw [l2, List.length_append]; show e.length + 1 + j = _; omega, z2, zfr_tr (zfr_mono f1 (by omega) (by omega)) f2, t2⟩
    have g1 : nI k < nI n := nI_lt (by omega) (by omega)
    rw [zs_156_49, zs_156_51, zs_156_52, if_pos g1]
    simp (disch := first | exact znw_u | exact znw_i) only [zs_156_0, zs_156_1, zs_156_2, zs_156_3, zs_156_5, zs_156_8, zs_156_9, zs_156_12, zs_156_13, zs_156_16, zs_156_19, zs_156_21, zs_156_24, zs_156_27, zs_156_28, zs_156_29, zs_156_32, zs_156_33, zs_156_34, zs_156_37, zs_156_40, zs_156_41, zs_156_42, zs_156_45, zs_156_46, zs_156_47, zs_156_51, zs_156_52, zs_156_55, zs_156_56, zs_156_57, zs_156_60, zs_156_61, zs_156_64, zs_156_65, zs_156_68, zs_156_69, zs_156_76, if_neg hx.1, h0, zrc_7, zf_7_0, zp_7_0, zp_7_0n, zf_7_1, zp_7_1, zp_7_1n, zf_7_2, zp_7_2, zTre_rc hp.2.2, e1, nI_1', zbk_v, zts_s]
    rw [zs_156_72, e2]
end ZDT

def ymu (m op pos : Nat) : Nat := 400 * (7 - op) + 5 * (61 - pos) + m
def yPA (sv : Nat → Value) (p : Nat) (cs : List Int32) (f m o K c : Nat) : Prop := ∀ (op pos : Nat) (h : zH) (ns : List yN) (D : Nat), ymu o op pos < f → 5 * (7 - op) + c ≤ D → op ≤ 6 → zPar h p cs pos ns → ywf ns → ns.length ≤ pos → pos ≤ cs.length → zPR h p cs pos ns (zcall zP sv D K [.ref p, .int (nI op)] h) (ypa cs f m none op pos)
def yPL (sv : Nat → Value) (p : Nat) (cs : List Int32) (f m o K c : Nat) : Prop := ∀ (op pos k : Nat) (h : zH) (ns : List yN) (D : Nat) (x : Int32) (a : Option yT) (s4 : Slot), znw s4 = true → ymu o op pos < f → 5 * (7 - op) + c ≤ D → op ≤ 6 → zPar h p cs pos ns → ywf ns → ns.length ≤ pos → pos ≤ cs.length → k ≤ pos → yis1 ns x a → zPR h p cs pos ns (zrun zP sv (zcall zP sv D) K 8 [.val (.ref p), .val (.int (nI op)), .val (.int x), .val (.int (nI k)), s4] [] h) (ypa cs f m a op pos)
theorem ypa_0 {cs : List Int32} {f op pos : Nat} {a : Option yT} : ypa cs (f + 1) 0 a op pos = ypa cs f 1 (ypa cs f 2 none op pos).1 op (ypa cs f 2 none op pos).2 := by
  conv => lhs; unfold ypa
  rfl
theorem ypa_2 {cs : List Int32} {f op pos : Nat} {a : Option yT} : ypa cs (f + 1) 2 a op pos = ypa cs f 3 (ypa cs f 4 none op pos).1 op (ypa cs f 4 none op pos).2 := by
  conv => lhs; unfold ypa
  rfl
theorem ypa_1n {cs : List Int32} {f op pos : Nat} : ypa cs (f + 1) 1 none op pos = (none, pos) := by
  conv => lhs; unfold ypa
  rfl
theorem ypa_3n {cs : List Int32} {f op pos : Nat} : ypa cs (f + 1) 3 none op pos = (none, pos) := by
  conv => lhs; unfold ypa
  rfl
theorem ypa_1s {cs : List Int32} {f op pos : Nat} {t : yT} : ypa cs (f + 1) 1 (some t) op pos = if ycat cs pos = nI 43 ∨ ycat cs pos = nI 45 then ypa cs f 1 ((ypa cs f 2 none op (pos + 1)).1.map (fun u => ymk (ycat cs pos) 0 t u)) op (ypa cs f 2 none op (pos + 1)).2 else (some t, pos) := by
  conv => lhs; unfold ypa
  rfl
theorem ypa_3s {cs : List Int32} {f op pos : Nat} {t : yT} : ypa cs (f + 1) 3 (some t) op pos = if ycat cs pos = nI 42 then ypa cs f 3 ((ypa cs f 4 none op (pos + 1)).1.map (fun u => ymk (ycat cs pos) 0 t u)) op (ypa cs f 4 none op (pos + 1)).2 else (some t, pos) := by
  conv => lhs; unfold ypa
  rfl
theorem zPR_tr {h h1 : zH} {p pos pos1 : Nat} {cs : List Int32} {ns e : List yN} {res : zR} {r : Option yT × Nat} (hr : zPR h1 p cs pos1 (ns ++ e) res r) (hf : zfr p (p + 12) h h1) (he : e.length + pos ≤ pos1) : zPR h p cs pos ns res r := by
  obtain ⟨h', e', x, e1, w1, w2, w3, w4, w5, w6⟩ := hr
  rw [List.append_assoc] at w1 w3 w6
  exact ⟨h', e ++ e', x, e1, w1, by rw [List.length_append]; omega, w3, w4, zfr_tr hf w5, w6⟩
section ZDU
variable {sv : Nat → Value} {p : Nat} {cs : List Int32}
/-- on from an operand: sums -/
theorem d_153l {f : Nat} (hA : yPA sv p cs f 2 2 154 5) (hL : yPL sv p cs f 1 3 153 5) : yPL sv p cs (f + 1) 1 3 153 5 := by
  intro op pos k h ns D x a s4 h4 hmu hD hop hp hw hn hl hk ha
  have h60 := hp.2.1.2.2.1
  have hmu2 : 400 * (7 - op) + 5 * (61 - pos) + 3 < f + 1 := hmu
  obtain ⟨d, rfl⟩ : ∃ d, D = d + 4 := ⟨D - 4, by omega⟩
  cases a with
  | none =>
    have hx : x = -1 := ha
    subst hx
    rw [ypa_1n]
    refine ⟨h, [], -1, ?_, by rw [List.append_nil]; exact hp, by rw [List.length_nil]; omega, by rw [List.append_nil]; exact hw, hl, zfr_rfl, rfl⟩
    by_cases g : k < 60
    · simp only [zs_153_0, zs_153_1, zs_153_2, zs_153_5, zs_153_6, zs_153_7, zs_153_8, zs_153_9, zs_153_11, zs_153_14, zs_153_15, zs_153_16, zs_153_19, zs_153_20, zs_153_22, zs_153_24, zs_153_27, zs_153_30, zs_153_31, zs_153_34, zs_153_36, zs_153_37, zs_153_39, zs_153_40, zs_153_41, zs_153_42, zs_153_45, zs_153_48, zs_153_49, zs_153_52, zs_153_55, zs_153_56, if_pos (nI_lt g (show 60 < 2 ^ 31 by decide)), nI_m1e, ↓reduceIte]
    · simp only [zs_153_0, zs_153_1, zs_153_2, zs_153_5, zs_153_6, zs_153_7, zs_153_8, zs_153_9, zs_153_11, zs_153_14, zs_153_15, zs_153_16, zs_153_19, zs_153_20, zs_153_22, zs_153_24, zs_153_27, zs_153_30, zs_153_31, zs_153_34, zs_153_36, zs_153_37, zs_153_39, zs_153_40, zs_153_41, zs_153_42, zs_153_45, zs_153_48, zs_153_49, zs_153_52, zs_153_55, zs_153_56, if_neg (nI_nlt (show 60 ≤ k by omega) (show k < 2 ^ 31 by omega))]
  | some t =>
    have hx := ha.1
    rw [ypa_1s]
    have e3 := d_163 (sv := sv) (d := d + 2) (a := nI 43) (b := nI 45) hp (by omega)
    by_cases h1 : ycat cs pos = nI 43 ∨ ycat cs pos = nI 45
    · rw [if_pos h1]
      have hb : (decide (ycat cs pos = nI 43) || decide (ycat cs pos = nI 45)) = true := by
        rcases h1 with g | g
        · rw [decide_eq_true g]; rfl
        · rw [decide_eq_true g, Bool.or_true]
      rw [hb] at e3
      have h2 : pos < cs.length := ycat_lt (fun h3 => by
        rcases h1 with g | g
        · exact y32.1 (h3.symm.trans g)
        · exact y32.2.1 (h3.symm.trans g))
      obtain ⟨h1', e4, w4, f4⟩ := d_160 (sv := sv) (d := d + 2) hp (by omega)
      have m1 : ymu 2 op (pos + 1) < f := by
        show 400 * (7 - op) + 5 * (61 - (pos + 1)) + 2 < f
        omega
      obtain ⟨h2', e, y, e5, w5, w6, w7, w8, f5, w9⟩ := hA op (pos + 1) h1' ns (d + 4) m1 hD hop w4 hw (by omega) (by omega)
      have g1 : nI k < nI 60 := nI_lt (by omega) (by decide)
      have e0 : zrun zP sv (zcall zP sv (d + 4)) 153 8 [.val (.ref p), .val (.int (nI op)), .val (.int x), .val (.int (nI k)), s4] [] h = zbk (zcall zP sv (d + 4) 155 [.ref p, .int (ycat cs pos), .int x, .int y] h2') (fun v h' => zrun zP sv (zcall zP sv (d + 4)) 153 48 [.val (.ref p), .val (.int (nI op)), .val (.int x), .val (.int (nI k)), .val (.int (ycat cs pos))] (v.toList ++ []) h') (fun E h' => some (.inr E, h')) := by
        simp (disch := first | exact h4 | exact znw_i) only [zs_153_0, zs_153_1, zs_153_2, zs_153_5, zs_153_6, zs_153_7, zs_153_8, zs_153_9, zs_153_11, zs_153_14, zs_153_15, zs_153_16, zs_153_19, zs_153_20, zs_153_22, zs_153_24, zs_153_27, zs_153_30, zs_153_31, zs_153_34, zs_153_36, zs_153_37, zs_153_39, zs_153_40, zs_153_41, zs_153_42, zs_153_45, zs_153_49, zs_153_52, zs_153_55, zs_153_56, if_pos g1, if_neg hx, zPar_rc hp, e3, yb_t, nI_1e0, ↓reduceIte, e4, zPar_rc w4, e5, zPar_rc w5, zbk_v, zts_s]
      rw [e0]
      have hlen : (ns ++ e).length = ns.length + e.length := List.length_append
      cases hr : (ypa cs f 2 none op (pos + 1)).1 with
      | none =>
        rw [hr] at w9
        have hy : y = -1 := w9
        subst hy
        rw [d_155n w5, zbk_v, zts_s, zs_153_48 rfl, zs_153_49, zs_153_52, nI_1']
        have q := hL op (ypa cs f 2 none op (pos + 1)).2 (k + 1) h2' (ns ++ e) (d + 4) (-1) none (.val (.int (ycat cs pos))) rfl (by unfold ymu; omega) (by omega) hop w5 w7 (by omega) w8 (by omega) rfl
        exact zPR_tr q (zfr_tr f4 f5) (by omega)
      | some u =>
        rw [hr] at w9
        obtain ⟨h3', e6, w10, f6⟩ := d_155 (sv := sv) (d := d) (k := ycat cs pos) (x := x) (y := y) w5 (by omega) w9.1
        rw [e6, zbk_v, zts_s, zs_153_48 rfl, zs_153_49, zs_153_52, nI_1']
        have cx : ych (ns ++ e).length x := ych_mono ha.2.1 (by omega)
        have z1 := ywf_snoc (nd := (ycat cs pos, 0, x, y)) w7 cx w9.2.1 (by omega)
        rw [List.append_assoc] at w10 z1
        have t1 : yis1 (ns ++ (e ++ [(ycat cs pos, 0, x, y)])) (nI (ns ++ e).length) (some (ymk (ycat cs pos) 0 t u)) := by
          rw [← List.append_assoc]
          exact ⟨nI_nm1 (by omega), ych_snoc, by rw [ygt_new (by omega), w9.2.2, ygt_pre (by omega) ha.2.1, ha.2.2]⟩
        have le1 : (e ++ [(ycat cs pos, 0, x, y)]).length = e.length + 1 := List.length_append
        have q := hL op (ypa cs f 2 none op (pos + 1)).2 (k + 1) h3' (ns ++ (e ++ [(ycat cs pos, 0, x, y)])) (d + 4) _ (some (ymk (ycat cs pos) 0 t u)) (.val (.int (ycat cs pos))) rfl (by unfold ymu; omega) (by omega) hop w10 z1 (by rw [List.length_append]; omega) w8 (by omega) t1
        exact zPR_tr q (zfr_tr (zfr_tr f4 f5) f6) (by omega)
    · rw [if_neg h1]
      have hb : (decide (ycat cs pos = nI 43) || decide (ycat cs pos = nI 45)) = false := by
        rw [decide_eq_false (fun g => h1 (Or.inl g)), decide_eq_false (fun g => h1 (Or.inr g))]; rfl
      rw [hb] at e3
      refine ⟨h, [], x, ?_, by rw [List.append_nil]; exact hp, by rw [List.length_nil]; omega, by rw [List.append_nil]; exact hw, hl, zfr_rfl, by rw [List.append_nil]; exact ha⟩
      by_cases g : k < 60
      · simp only [zs_153_0, zs_153_1, zs_153_2, zs_153_5, zs_153_6, zs_153_7, zs_153_8, zs_153_9, zs_153_11, zs_153_14, zs_153_15, zs_153_16, zs_153_19, zs_153_20, zs_153_22, zs_153_24, zs_153_27, zs_153_30, zs_153_31, zs_153_34, zs_153_36, zs_153_37, zs_153_39, zs_153_40, zs_153_41, zs_153_42, zs_153_45, zs_153_48, zs_153_49, zs_153_52, zs_153_55, zs_153_56, if_pos (nI_lt g (show 60 < 2 ^ 31 by decide)), if_neg hx, zPar_rc hp, e3, yb_f, ↓reduceIte, zbk_v, zts_s]
      · simp only [zs_153_0, zs_153_1, zs_153_2, zs_153_5, zs_153_6, zs_153_7, zs_153_8, zs_153_9, zs_153_11, zs_153_14, zs_153_15, zs_153_16, zs_153_19, zs_153_20, zs_153_22, zs_153_24, zs_153_27, zs_153_30, zs_153_31, zs_153_34, zs_153_36, zs_153_37, zs_153_39, zs_153_40, zs_153_41, zs_153_42, zs_153_45, zs_153_48, zs_153_49, zs_153_52, zs_153_55, zs_153_56, if_neg (nI_nlt (show 60 ≤ k by omega) (show k < 2 ^ 31 by omega))]
end ZDU

section ZDV
variable {sv : Nat → Value} {p : Nat} {cs : List Int32}
/-- on from an operand: products -/
theorem d_154l {f : Nat} (hA : yPA sv p cs f 4 0 156 4) (hL : yPL sv p cs f 3 1 154 4) : yPL sv p cs (f + 1) 3 1 154 4 := by
  intro op pos k h ns D x a s4 h4 hmu hD hop hp hw hn hl hk ha
  have h60 := hp.2.1.2.2.1
  have hmu2 : 400 * (7 - op) + 5 * (61 - pos) + 1 < f + 1 := hmu
  obtain ⟨d, rfl⟩ : ∃ d, D = d + 4 := ⟨D - 4, by omega⟩
  cases a with
  | none =>
    have hx : x = -1 := ha
    subst hx
    rw [ypa_3n]
    refine ⟨h, [], -1, ?_, by rw [List.append_nil]; exact hp, by rw [List.length_nil]; omega, by rw [List.append_nil]; exact hw, hl, zfr_rfl, rfl⟩
    by_cases g : k < 60
    · simp only [zs_154_0, zs_154_1, zs_154_2, zs_154_5, zs_154_6, zs_154_7, zs_154_8, zs_154_9, zs_154_11, zs_154_14, zs_154_15, zs_154_16, zs_154_19, zs_154_20, zs_154_22, zs_154_24, zs_154_27, zs_154_30, zs_154_31, zs_154_34, zs_154_36, zs_154_37, zs_154_39, zs_154_40, zs_154_41, zs_154_42, zs_154_45, zs_154_48, zs_154_49, zs_154_52, zs_154_55, zs_154_56, if_pos (nI_lt g (show 60 < 2 ^ 31 by decide)), nI_m1e, ↓reduceIte]
    · simp only [zs_154_0, zs_154_1, zs_154_2, zs_154_5, zs_154_6, zs_154_7, zs_154_8, zs_154_9, zs_154_11, zs_154_14, zs_154_15, zs_154_16, zs_154_19, zs_154_20, zs_154_22, zs_154_24, zs_154_27, zs_154_30, zs_154_31, zs_154_34, zs_154_36, zs_154_37, zs_154_39, zs_154_40, zs_154_41, zs_154_42, zs_154_45, zs_154_48, zs_154_49, zs_154_52, zs_154_55, zs_154_56, if_neg (nI_nlt (show 60 ≤ k by omega) (show k < 2 ^ 31 by omega))]
  | some t =>
    have hx := ha.1
    rw [ypa_3s]
    have e3 := d_163 (sv := sv) (d := d + 2) (a := nI 42) (b := nI 42) hp (by omega)
    by_cases h1 : ycat cs pos = nI 42
    · rw [if_pos h1]
      have hb : (decide (ycat cs pos = nI 42) || decide (ycat cs pos = nI 42)) = true := by
        rw [decide_eq_true h1]; rfl
      rw [hb] at e3
      have h2 : pos < cs.length := ycat_lt (fun h3 => y32.2.2.1 (h3.symm.trans h1))
      obtain ⟨h1', e4, w4, f4⟩ := d_160 (sv := sv) (d := d + 2) hp (by omega)
      have m1 : ymu 0 op (pos + 1) < f := by
        show 400 * (7 - op) + 5 * (61 - (pos + 1)) + 0 < f
        omega
      obtain ⟨h2', e, y, e5, w5, w6, w7, w8, f5, w9⟩ := hA op (pos + 1) h1' ns (d + 4) m1 hD hop w4 hw (by omega) (by omega)
      have g1 : nI k < nI 60 := nI_lt (by omega) (by decide)
      have e0 : zrun zP sv (zcall zP sv (d + 4)) 154 8 [.val (.ref p), .val (.int (nI op)), .val (.int x), .val (.int (nI k)), s4] [] h = zbk (zcall zP sv (d + 4) 155 [.ref p, .int (ycat cs pos), .int x, .int y] h2') (fun v h' => zrun zP sv (zcall zP sv (d + 4)) 154 48 [.val (.ref p), .val (.int (nI op)), .val (.int x), .val (.int (nI k)), .val (.int (ycat cs pos))] (v.toList ++ []) h') (fun E h' => some (.inr E, h')) := by
        simp (disch := first | exact h4 | exact znw_i) only [zs_154_0, zs_154_1, zs_154_2, zs_154_5, zs_154_6, zs_154_7, zs_154_8, zs_154_9, zs_154_11, zs_154_14, zs_154_15, zs_154_16, zs_154_19, zs_154_20, zs_154_22, zs_154_24, zs_154_27, zs_154_30, zs_154_31, zs_154_34, zs_154_36, zs_154_37, zs_154_39, zs_154_40, zs_154_41, zs_154_42, zs_154_45, zs_154_49, zs_154_52, zs_154_55, zs_154_56, if_pos g1, if_neg hx, zPar_rc hp, e3, yb_t, nI_1e0, ↓reduceIte, e4, zPar_rc w4, e5, zPar_rc w5, zbk_v, zts_s]
      rw [e0]
      have hlen : (ns ++ e).length = ns.length + e.length := List.length_append
      cases hr : (ypa cs f 4 none op (pos + 1)).1 with
      | none =>
        rw [hr] at w9
        have hy : y = -1 := w9
        subst hy
        rw [d_155n w5, zbk_v, zts_s, zs_154_48 rfl, zs_154_49, zs_154_52, nI_1']
        have q := hL op (ypa cs f 4 none op (pos + 1)).2 (k + 1) h2' (ns ++ e) (d + 4) (-1) none (.val (.int (ycat cs pos))) rfl (by unfold ymu; omega) (by omega) hop w5 w7 (by omega) w8 (by omega) rfl
        exact zPR_tr q (zfr_tr f4 f5) (by omega)
      | some u =>
        rw [hr] at w9
        obtain ⟨h3', e6, w10, f6⟩ := d_155 (sv := sv) (d := d) (k := ycat cs pos) (x := x) (y := y) w5 (by omega) w9.1
        rw [e6, zbk_v, zts_s, zs_154_48 rfl, zs_154_49, zs_154_52, nI_1']
        have cx : ych (ns ++ e).length x := ych_mono ha.2.1 (by omega)
        have z1 := ywf_snoc (nd := (ycat cs pos, 0, x, y)) w7 cx w9.2.1 (by omega)
        rw [List.append_assoc] at w10 z1
        have t1 : yis1 (ns ++ (e ++ [(ycat cs pos, 0, x, y)])) (nI (ns ++ e).length) (some (ymk (ycat cs pos) 0 t u)) := by
          rw [← List.append_assoc]
          exact ⟨nI_nm1 (by omega), ych_snoc, by rw [ygt_new (by omega), w9.2.2, ygt_pre (by omega) ha.2.1, ha.2.2]⟩
        have le1 : (e ++ [(ycat cs pos, 0, x, y)]).length = e.length + 1 := List.length_append
        have q := hL op (ypa cs f 4 none op (pos + 1)).2 (k + 1) h3' (ns ++ (e ++ [(ycat cs pos, 0, x, y)])) (d + 4) _ (some (ymk (ycat cs pos) 0 t u)) (.val (.int (ycat cs pos))) rfl (by unfold ymu; omega) (by omega) hop w10 z1 (by rw [List.length_append]; omega) w8 (by omega) t1
        exact zPR_tr q (zfr_tr (zfr_tr f4 f5) f6) (by omega)
    · rw [if_neg h1]
      have hb : (decide (ycat cs pos = nI 42) || decide (ycat cs pos = nI 42)) = false := by
        rw [decide_eq_false h1]; rfl
      rw [hb] at e3
      refine ⟨h, [], x, ?_, by rw [List.append_nil]; exact hp, by rw [List.length_nil]; omega, by rw [List.append_nil]; exact hw, hl, zfr_rfl, by rw [List.append_nil]; exact ha⟩
      by_cases g : k < 60
      · simp only [zs_154_0, zs_154_1, zs_154_2, zs_154_5, zs_154_6, zs_154_7, zs_154_8, zs_154_9, zs_154_11, zs_154_14, zs_154_15, zs_154_16, zs_154_19, zs_154_20, zs_154_22, zs_154_24, zs_154_27, zs_154_30, zs_154_31, zs_154_34, zs_154_36, zs_154_37, zs_154_39, zs_154_40, zs_154_41, zs_154_42, zs_154_45, zs_154_48, zs_154_49, zs_154_52, zs_154_55, zs_154_56, if_pos (nI_lt g (show 60 < 2 ^ 31 by decide)), if_neg hx, zPar_rc hp, e3, yb_f, ↓reduceIte, zbk_v, zts_s]
      · simp only [zs_154_0, zs_154_1, zs_154_2, zs_154_5, zs_154_6, zs_154_7, zs_154_8, zs_154_9, zs_154_11, zs_154_14, zs_154_15, zs_154_16, zs_154_19, zs_154_20, zs_154_22, zs_154_24, zs_154_27, zs_154_30, zs_154_31, zs_154_34, zs_154_36, zs_154_37, zs_154_39, zs_154_40, zs_154_41, zs_154_42, zs_154_45, zs_154_48, zs_154_49, zs_154_52, zs_154_55, zs_154_56, if_neg (nI_nlt (show 60 ≤ k by omega) (show k < 2 ^ 31 by omega))]

theorem d_153 {f : Nat} (hA : yPA sv p cs f 2 2 154 5) (hL : yPL sv p cs f 1 3 153 5) : yPA sv p cs (f + 1) 0 4 153 6 := by
  intro op pos h ns D hmu hD hop hp hw hn hl
  have hmu2 : 400 * (7 - op) + 5 * (61 - pos) + 4 < f + 1 := hmu
  obtain ⟨d, rfl⟩ : ∃ d, D = d + 1 := ⟨D - 1, by omega⟩
  have m1 : ymu 2 op pos < f := by
    show 400 * (7 - op) + 5 * (61 - pos) + 2 < f
    omega
  rw [ypa_0]
  obtain ⟨h1, e, x, e1, w1, w2, w3, w4, f1, w5⟩ := hA op pos h ns d m1 (by omega) hop hp hw hn hl
  have m2 : ymu 3 op (ypa cs f 2 none op pos).2 < f := by
    show 400 * (7 - op) + 5 * (61 - (ypa cs f 2 none op pos).2) + 3 < f
    omega
  have q := hL op (ypa cs f 2 none op pos).2 0 h1 (ns ++ e) d x _ .unset rfl m2 (by omega) hop w1 w3 (by rw [List.length_append]; omega) w4 (Nat.zero_le _) w5
  rw [nI_0] at q
  have e0 : zcall zP sv (d + 1) 153 [.ref p, .int (nI op)] h = zrun zP sv (zcall zP sv d) 153 8 [.val (.ref p), .val (.int (nI op)), .val (.int x), .val (.int 0), .unset] [] h1 := by
    simp (disch := exact znw_u) only [zc_153, zs_153_0, zs_153_1, zs_153_2, zs_153_5, zs_153_6, zs_153_7, zs_153_9, zs_153_11, zs_153_14, zs_153_15, zs_153_16, zs_153_19, zs_153_20, zs_153_22, zs_153_24, zs_153_27, zs_153_30, zs_153_31, zs_153_34, zs_153_36, zs_153_37, zs_153_39, zs_153_40, zs_153_41, zs_153_42, zs_153_45, zs_153_48, zs_153_49, zs_153_52, zs_153_55, zs_153_56, zPar_rc hp, e1, zbk_v, zts_s]
  rw [e0]
  exact zPR_tr q f1 w2
theorem d_154 {f : Nat} (hA : yPA sv p cs f 4 0 156 4) (hL : yPL sv p cs f 3 1 154 4) : yPA sv p cs (f + 1) 2 2 154 5 := by
  intro op pos h ns D hmu hD hop hp hw hn hl
  have hmu2 : 400 * (7 - op) + 5 * (61 - pos) + 2 < f + 1 := hmu
  obtain ⟨d, rfl⟩ : ∃ d, D = d + 1 := ⟨D - 1, by omega⟩
  have m1 : ymu 0 op pos < f := by
    show 400 * (7 - op) + 5 * (61 - pos) + 0 < f
    omega
  rw [ypa_2]
  obtain ⟨h1, e, x, e1, w1, w2, w3, w4, f1, w5⟩ := hA op pos h ns d m1 (by omega) hop hp hw hn hl
  have m2 : ymu 1 op (ypa cs f 4 none op pos).2 < f := by
    show 400 * (7 - op) + 5 * (61 - (ypa cs f 4 none op pos).2) + 1 < f
    omega
  have q := hL op (ypa cs f 4 none op pos).2 0 h1 (ns ++ e) d x _ .unset rfl m2 (by omega) hop w1 w3 (by rw [List.length_append]; omega) w4 (Nat.zero_le _) w5
  rw [nI_0] at q
  have e0 : zcall zP sv (d + 1) 154 [.ref p, .int (nI op)] h = zrun zP sv (zcall zP sv d) 154 8 [.val (.ref p), .val (.int (nI op)), .val (.int x), .val (.int 0), .unset] [] h1 := by
    simp (disch := exact znw_u) only [zc_154, zs_154_0, zs_154_1, zs_154_2, zs_154_5, zs_154_6, zs_154_7, zs_154_9, zs_154_11, zs_154_14, zs_154_15, zs_154_16, zs_154_19, zs_154_20, zs_154_22, zs_154_24, zs_154_27, zs_154_30, zs_154_31, zs_154_34, zs_154_36, zs_154_37, zs_154_39, zs_154_40, zs_154_41, zs_154_42, zs_154_45, zs_154_48, zs_154_49, zs_154_52, zs_154_55, zs_154_56, zPar_rc hp, e1, zbk_v, zts_s]
  rw [e0]
  exact zPR_tr q f1 w2
/-- what stands behind the negations -/
def ypu (cs : List Int32) (f op p : Nat) : Option yT × Nat := if ycat cs p = nI 40 ∧ op < 6 then (if (ypa cs f 0 none (op + 1) (p + 1)).1.isSome = true ∧ ycat cs (ypa cs f 0 none (op + 1) (p + 1)).2 = nI 41 then ((ypa cs f 0 none (op + 1) (p + 1)).1, (ypa cs f 0 none (op + 1) (p + 1)).2 + 1) else (none, (ypa cs f 0 none (op + 1) (p + 1)).2))
        else if ylet (ycat cs p) = true then (some (ymk (nI 118) (ycat cs p) .leaf .leaf), p + 1)
        else if yisd (ycat cs p) = true then ynum2 cs p else (none, p)
theorem ypa_4 {cs : List Int32} {f op pos : Nat} {a : Option yT} : ypa cs (f + 1) 4 a op pos = ((ypu cs f op (pos + yng cs pos 6)).1.map (ywr (yng cs pos 6)), (ypu cs f op (pos + yng cs pos 6)).2) := by
  conv => lhs; unfold ypa
  rfl
theorem ylet_r {c : Int32} (h : ylet c = true) : ¬ c < nI 97 ∧ ¬ nI 102 < c := by
  unfold ylet at h
  rw [Bool.and_eq_true] at h
  exact ⟨of_decide_eq_true h.1, of_decide_eq_true h.2⟩
theorem ylet_f {c : Int32} (h : ylet c = false) : c < nI 97 ∨ nI 102 < c := by
  by_cases h1 : c < nI 97
  · exact Or.inl h1
  · by_cases h2 : nI 102 < c
    · exact Or.inr h2
    · unfold ylet at h
      rw [decide_eq_true h1, decide_eq_true h2] at h
      exact absurd h (by decide)
theorem d_158 {f : Nat} (hA : yPA sv p cs f 0 4 153 6) {op pos D : Nat} {h : zH} {ns : List yN} (hmu : 400 * (7 - op) + 5 * (61 - pos) + 0 < f + 1) (hD : 5 * (7 - op) + 2 ≤ D) (hop : op < 6) (hp : zPar h p cs pos ns) (hw : ywf ns) (hn : ns.length ≤ pos) (hl : pos < cs.length) : zPR h p cs pos ns (zcall zP sv D 158 [.ref p, .int (nI op)] h) (if (ypa cs f 0 none (op + 1) (pos + 1)).1.isSome = true ∧ ycat cs (ypa cs f 0 none (op + 1) (pos + 1)).2 = nI 41 then ((ypa cs f 0 none (op + 1) (pos + 1)).1, (ypa cs f 0 none (op + 1) (pos + 1)).2 + 1) else (none, (ypa cs f 0 none (op + 1) (pos + 1)).2)) := by
  have h60 := hp.2.1.2.2.1
  obtain ⟨d, rfl⟩ : ∃ d, D = d + 2 := ⟨D - 2, by omega⟩
  have h0 := hp.1
  have w := zPar_pos (pos' := pos + 1) hp
  have f0 : zfr p (p + 12) h (zup h p (7, [.ref (p + 1), .ref (p + 3), .int (nI (pos + 1))])) := zfr_up (by omega) (by omega)
  have a0 : (zup h p (7, [.ref (p + 1), .ref (p + 3), .int (nI (pos + 1))])).1 p = (7, [.ref (p + 1), .ref (p + 3), .int (nI (pos + 1))]) := zup_at
  have m1 : ymu 4 (op + 1) (pos + 1) < f := by
    show 400 * (7 - (op + 1)) + 5 * (61 - (pos + 1)) + 4 < f
    omega
  obtain ⟨h1, e, x, e1, w1, w2, w3, w4, f1, w5⟩ := hA (op + 1) (pos + 1) _ ns (d + 1) m1 (by omega) (by omega) w hw (by omega) (by omega)
  have b0 := w1.1
  cases hr : (ypa cs f 0 none (op + 1) (pos + 1)).1 with
  | none =>
    rw [if_neg (fun g => by cases g.1)]
    rw [hr] at w5
    have hx : x = -1 := w5
    subst hx
    refine ⟨h1, e, -1, ?_, w1, by omega, w3, w4, zfr_tr f0 f1, rfl⟩
    simp (disch := exact znw_u) only [zc_158, zs_158_0, zs_158_1, zs_158_2, zs_158_5, zs_158_6, zs_158_7, zs_158_10, zs_158_11, zs_158_12, zs_158_13, zs_158_14, zs_158_17, zs_158_18, zs_158_19, zs_158_20, zs_158_23, zs_158_24, zs_158_27, zs_158_28, zs_158_31, zs_158_34, zs_158_36, zs_158_39, zs_158_40, zs_158_41, zs_158_42, zs_158_43, zs_158_46, zs_158_47, zs_158_48, zs_158_51, zs_158_52, h0, zrc_7, zf_7_0, zp_7_0, zp_7_0n, zf_7_1, zp_7_1, zp_7_1n, zf_7_2, zp_7_2, zup_at, nI_1', zPar_rc w, e1, nI_m1e, zbk_v, zts_s, ↓reduceIte]
  | some u =>
    rw [hr] at w5
    have e2 := d_141 (sv := sv) (d := d) (h := h1) w1.2.1 (show (ypa cs f 0 none (op + 1) (pos + 1)).2 < 2 ^ 31 by omega)
    by_cases h2 : ycat cs (ypa cs f 0 none (op + 1) (pos + 1)).2 = nI 41
    · rw [if_pos ⟨rfl, h2⟩]
      have h3 : (ypa cs f 0 none (op + 1) (pos + 1)).2 < cs.length := ycat_lt (fun h3 => y32.2.2.2.2.1 (h3.symm.trans h2))
      have w6 := zPar_pos (pos' := (ypa cs f 0 none (op + 1) (pos + 1)).2 + 1) w1
      refine ⟨_, e, x, ?_, w6, by show e.length + pos ≤ (ypa cs f 0 none (op + 1) (pos + 1)).2 + 1; omega, w3, h3, zfr_tr (zfr_tr f0 f1) (zfr_up (by omega) (by omega)), w5⟩
      simp (disch := exact znw_u) only [zc_158, zs_158_0, zs_158_1, zs_158_2, zs_158_5, zs_158_6, zs_158_7, zs_158_10, zs_158_11, zs_158_12, zs_158_13, zs_158_14, zs_158_17, zs_158_18, zs_158_19, zs_158_20, zs_158_23, zs_158_24, zs_158_27, zs_158_28, zs_158_31, zs_158_34, zs_158_36, zs_158_39, zs_158_40, zs_158_41, zs_158_42, zs_158_43, zs_158_46, zs_158_47, zs_158_48, zs_158_51, zs_158_52, h0, zrc_7, zf_7_0, zp_7_0, zp_7_0n, zf_7_1, zp_7_1, zp_7_1n, zf_7_2, zp_7_2, zup_at, nI_1', zPar_rc w, e1, if_neg w5.1, b0, zInp_rc w1.2.1, e2, if_pos h2, zbk_v, zts_s]
    · rw [if_neg (fun g => h2 g.2)]
      refine ⟨h1, e, -1, ?_, w1, by show e.length + pos ≤ (ypa cs f 0 none (op + 1) (pos + 1)).2; omega, w3, w4, zfr_tr f0 f1, rfl⟩
      simp (disch := exact znw_u) only [zc_158, zs_158_0, zs_158_1, zs_158_2, zs_158_5, zs_158_6, zs_158_7, zs_158_10, zs_158_11, zs_158_12, zs_158_13, zs_158_14, zs_158_17, zs_158_18, zs_158_19, zs_158_20, zs_158_23, zs_158_24, zs_158_27, zs_158_28, zs_158_31, zs_158_34, zs_158_36, zs_158_39, zs_158_40, zs_158_41, zs_158_42, zs_158_43, zs_158_46, zs_158_47, zs_158_48, zs_158_51, zs_158_52, h0, zrc_7, zf_7_0, zp_7_0, zp_7_0n, zf_7_1, zp_7_1, zp_7_1n, zf_7_2, zp_7_2, zup_at, nI_1', zPar_rc w, e1, if_neg w5.1, b0, zInp_rc w1.2.1, e2, if_neg h2, zbk_v, zts_s]
theorem y40 : ylet (nI 40) = false ∧ yisd (nI 40) = false ∧ (nI 40 < nI 97) = True ∧ (nI 6 < nI 6) = False := by decide +kernel
theorem d_157 {f : Nat} (hA : yPA sv p cs f 0 4 153 6) {op pos D : Nat} {h : zH} {ns : List yN} (hmu : 400 * (7 - op) + 5 * (61 - pos) + 0 < f + 1) (hD : 5 * (7 - op) + 3 ≤ D) (hop : op ≤ 6) (hp : zPar h p cs pos ns) (hw : ywf ns) (hn : ns.length ≤ pos) (hl : pos ≤ cs.length) : zPR h p cs pos ns (zcall zP sv D 157 [.ref p, .int (nI op)] h) (ypu cs f op pos) := by
  have h60 := hp.2.1.2.2.1
  obtain ⟨d, rfl⟩ : ∃ d, D = d + 5 := ⟨D - 5, by omega⟩
  have h0 := hp.1
  have e2 := d_141 (sv := sv) (d := d + 3) (h := h) hp.2.1 (show pos < 2 ^ 31 by omega)
  unfold ypu
  by_cases h1 : ycat cs pos = nI 40 ∧ op < 6
  · rw [if_pos h1]
    have h3 : pos < cs.length := ycat_lt (fun h3 => y32.2.2.2.1 (h3.symm.trans h1.1))
    obtain ⟨h', e, x, e1, w⟩ := d_158 (sv := sv) (D := d + 4) hA hmu (by omega) h1.2 hp hw hn h3
    refine ⟨h', e, x, ?_, w⟩
    have g1 : nI op < nI 6 := nI_lt h1.2 (by decide)
    simp (disch := exact znw_u) only [zc_157, zs_157_0, zs_157_1, zs_157_4, zs_157_5, zs_157_8, zs_157_11, zs_157_12, zs_157_13, zs_157_15, zs_157_18, zs_157_19, zs_157_21, zs_157_24, zs_157_25, zs_157_26, zs_157_29, zs_157_30, zs_157_31, zs_157_33, zs_157_36, zs_157_37, zs_157_39, zs_157_42, zs_157_43, zs_157_44, zs_157_47, zs_157_48, zs_157_49, zs_157_52, zs_157_53, zs_157_56, zs_157_58, zs_157_59, zs_157_60, zs_157_61, zs_157_64, zs_157_65, zs_157_66, zs_157_69, zs_157_72, zs_157_73, zs_157_76, zs_157_79, zs_157_80, h0, zrc_7, zf_7_0, zp_7_0, zp_7_0n, zf_7_1, zp_7_1, zp_7_1n, zf_7_2, zp_7_2, zInp_rc hp.2.1, e2, if_pos h1.1, if_pos g1, zPar_rc hp, e1, zbk_v, zts_s]
  · rw [if_neg h1]
    have e3 : zcall zP sv (d + 5) 157 [.ref p, .int (nI op)] h = zrun zP sv (zcall zP sv (d + 4)) 157 30 [.val (.ref p), .val (.int (nI op)), .val (.int (ycat cs pos))] [] h := by
      by_cases h2 : ycat cs pos = nI 40
      · have g1 : ¬ nI op < nI 6 := nI_nlt (by
          have h9 : ¬ op < 6 := fun g => h1 ⟨h2, g⟩
          omega) (by omega)
        simp (disch := exact znw_u) only [zc_157, zs_157_0, zs_157_1, zs_157_4, zs_157_5, zs_157_8, zs_157_11, zs_157_12, zs_157_13, zs_157_15, zs_157_18, zs_157_19, zs_157_21, zs_157_24, zs_157_25, zs_157_26, zs_157_29, zs_157_31, zs_157_33, zs_157_36, zs_157_37, zs_157_39, zs_157_42, zs_157_43, zs_157_44, zs_157_47, zs_157_48, zs_157_49, zs_157_52, zs_157_53, zs_157_56, zs_157_58, zs_157_59, zs_157_60, zs_157_61, zs_157_64, zs_157_65, zs_157_66, zs_157_69, zs_157_72, zs_157_73, zs_157_76, zs_157_79, zs_157_80, h0, zrc_7, zf_7_0, zp_7_0, zp_7_0n, zf_7_1, zp_7_1, zp_7_1n, zf_7_2, zp_7_2, zInp_rc hp.2.1, e2, if_pos h2, if_neg g1, zbk_v, zts_s]
      · simp (disch := exact znw_u) only [zc_157, zs_157_0, zs_157_1, zs_157_4, zs_157_5, zs_157_8, zs_157_11, zs_157_12, zs_157_13, zs_157_15, zs_157_18, zs_157_19, zs_157_21, zs_157_24, zs_157_25, zs_157_26, zs_157_29, zs_157_31, zs_157_33, zs_157_36, zs_157_37, zs_157_39, zs_157_42, zs_157_43, zs_157_44, zs_157_47, zs_157_48, zs_157_49, zs_157_52, zs_157_53, zs_157_56, zs_157_58, zs_157_59, zs_157_60, zs_157_61, zs_157_64, zs_157_65, zs_157_66, zs_157_69, zs_157_72, zs_157_73, zs_157_76, zs_157_79, zs_157_80, h0, zrc_7, zf_7_0, zp_7_0, zp_7_0n, zf_7_1, zp_7_1, zp_7_1n, zf_7_2, zp_7_2, zInp_rc hp.2.1, e2, if_neg h2, zbk_v, zts_s]
    rw [e3]
    cases h4 : ylet (ycat cs pos) with
    | true =>
      rw [if_pos rfl]
      have g := ylet_r h4
      have h3 : pos < cs.length := ycat_lt (fun h3 => by rw [h3, y32.2.2.2.2.2.1] at h4; cases h4)
      have w := zPar_pos (pos' := pos + 1) hp
      have f0 : zfr p (p + 12) h (zup h p (7, [.ref (p + 1), .ref (p + 3), .int (nI (pos + 1))])) := zfr_up (by omega) (by omega)
      obtain ⟨h', e1, w1, f1⟩ := d_191 (sv := sv) (d := d + 2) (k := nI 118) (n := ycat cs pos) (l := -1) (r := -1) w.2.2 (by omega)
      refine ⟨h', [(nI 118, ycat cs pos, -1, -1)], nI ns.length, ?_, zPar_tree w f1 w1, by show 1 + pos ≤ pos + 1; omega, ywf_snoc hw ych_n ych_n (by omega), h3, zfr_tr f0 (zfr_mono f1 (by omega) (by omega)), nI_nm1 (by omega), ych_snoc, by rw [ygt_new (by omega), ygt_n]⟩
      simp only [zs_157_0, zs_157_1, zs_157_4, zs_157_5, zs_157_8, zs_157_11, zs_157_12, zs_157_13, zs_157_15, zs_157_18, zs_157_19, zs_157_21, zs_157_24, zs_157_25, zs_157_26, zs_157_29, zs_157_30, zs_157_31, zs_157_33, zs_157_36, zs_157_37, zs_157_39, zs_157_42, zs_157_43, zs_157_44, zs_157_47, zs_157_48, zs_157_49, zs_157_52, zs_157_53, zs_157_56, zs_157_58, zs_157_59, zs_157_60, zs_157_61, zs_157_64, zs_157_65, zs_157_66, zs_157_69, zs_157_72, zs_157_73, zs_157_76, zs_157_79, zs_157_80, if_neg g.1, if_neg g.2, h0, zrc_7, zf_7_0, zp_7_0, zp_7_0n, zf_7_1, zp_7_1, zp_7_1n, zf_7_2, zp_7_2, zup_at, nI_1', zTre_rc w.2.2, e1, zbk_v, zts_s]
    | false =>
      rw [if_neg (by decide)]
      have e4 : zrun zP sv (zcall zP sv (d + 4)) 157 30 [.val (.ref p), .val (.int (nI op)), .val (.int (ycat cs pos))] [] h = zrun zP sv (zcall zP sv (d + 4)) 157 65 [.val (.ref p), .val (.int (nI op)), .val (.int (ycat cs pos))] [] h := by
        by_cases g : ycat cs pos < nI 97
        · simp only [zs_157_0, zs_157_1, zs_157_4, zs_157_5, zs_157_8, zs_157_11, zs_157_12, zs_157_13, zs_157_15, zs_157_18, zs_157_19, zs_157_21, zs_157_24, zs_157_25, zs_157_26, zs_157_29, zs_157_30, zs_157_31, zs_157_33, zs_157_36, zs_157_37, zs_157_39, zs_157_42, zs_157_43, zs_157_44, zs_157_47, zs_157_48, zs_157_49, zs_157_52, zs_157_53, zs_157_56, zs_157_58, zs_157_59, zs_157_60, zs_157_61, zs_157_64, zs_157_66, zs_157_69, zs_157_72, zs_157_73, zs_157_76, zs_157_79, zs_157_80, if_pos g]
        · simp only [zs_157_0, zs_157_1, zs_157_4, zs_157_5, zs_157_8, zs_157_11, zs_157_12, zs_157_13, zs_157_15, zs_157_18, zs_157_19, zs_157_21, zs_157_24, zs_157_25, zs_157_26, zs_157_29, zs_157_30, zs_157_31, zs_157_33, zs_157_36, zs_157_37, zs_157_39, zs_157_42, zs_157_43, zs_157_44, zs_157_47, zs_157_48, zs_157_49, zs_157_52, zs_157_53, zs_157_56, zs_157_58, zs_157_59, zs_157_60, zs_157_61, zs_157_64, zs_157_66, zs_157_69, zs_157_72, zs_157_73, zs_157_76, zs_157_79, zs_157_80, if_neg g, if_pos ((ylet_f h4).resolve_left g)]
      rw [e4]
      have e5 := d_162 (sv := sv) (d := d + 2) hp (by omega)
      cases h5 : yisd (ycat cs pos) with
      | true =>
        rw [h5] at e5
        rw [if_pos rfl]
        have h3 : pos < cs.length := ycat_lt (fun h3 => by rw [h3, y32.2.2.2.2.2.2] at h5; cases h5)
        obtain ⟨h', e6, w1, f1⟩ := d_159 (sv := sv) (d := d) hp (by omega) (by omega)
        unfold ynum2
        cases h6 : yisd (ycat cs (pos + 1)) with
        | true =>
          rw [h6, if_pos rfl, if_pos rfl] at w1
          have h7 : pos + 1 < cs.length := ycat_lt (fun h3 => by rw [h3, y32.2.2.2.2.2.2] at h6; cases h6)
          rw [if_pos rfl]
          refine ⟨h', [(nI 99, nI 10 * (ycat cs pos - nI 48) + (ycat cs (pos + 1) - nI 48), -1, -1)], nI ns.length, ?_, w1, by show 1 + pos ≤ pos + 2; omega, ywf_snoc hw ych_n ych_n (by omega), h7, f1, nI_nm1 (by omega), ych_snoc, by rw [ygt_new (by omega), ygt_n]; rfl⟩
          simp only [zs_157_0, zs_157_1, zs_157_4, zs_157_5, zs_157_8, zs_157_11, zs_157_12, zs_157_13, zs_157_15, zs_157_18, zs_157_19, zs_157_21, zs_157_24, zs_157_25, zs_157_26, zs_157_29, zs_157_30, zs_157_31, zs_157_33, zs_157_36, zs_157_37, zs_157_39, zs_157_42, zs_157_43, zs_157_44, zs_157_47, zs_157_48, zs_157_49, zs_157_52, zs_157_53, zs_157_56, zs_157_58, zs_157_59, zs_157_60, zs_157_61, zs_157_64, zs_157_65, zs_157_66, zs_157_69, zs_157_72, zs_157_73, zs_157_76, zs_157_79, zs_157_80, zPar_rc hp, e5, yb_t, nI_1e0, e6, zbk_v, zts_s, ↓reduceIte]
        | false =>
          rw [h6, if_neg (by decide), if_neg (by decide)] at w1
          rw [if_neg (by decide)]
          refine ⟨h', [(nI 99, ycat cs pos - nI 48, -1, -1)], nI ns.length, ?_, w1, by show 1 + pos ≤ pos + 1; omega, ywf_snoc hw ych_n ych_n (by omega), h3, f1, nI_nm1 (by omega), ych_snoc, by rw [ygt_new (by omega), ygt_n]; rfl⟩
          simp only [zs_157_0, zs_157_1, zs_157_4, zs_157_5, zs_157_8, zs_157_11, zs_157_12, zs_157_13, zs_157_15, zs_157_18, zs_157_19, zs_157_21, zs_157_24, zs_157_25, zs_157_26, zs_157_29, zs_157_30, zs_157_31, zs_157_33, zs_157_36, zs_157_37, zs_157_39, zs_157_42, zs_157_43, zs_157_44, zs_157_47, zs_157_48, zs_157_49, zs_157_52, zs_157_53, zs_157_56, zs_157_58, zs_157_59, zs_157_60, zs_157_61, zs_157_64, zs_157_65, zs_157_66, zs_157_69, zs_157_72, zs_157_73, zs_157_76, zs_157_79, zs_157_80, zPar_rc hp, e5, yb_t, nI_1e0, e6, zbk_v, zts_s, ↓reduceIte]
      | false =>
        rw [h5] at e5
        rw [if_neg (by decide)]
        refine ⟨h, [], -1, ?_, by rw [List.append_nil]; exact hp, by show 0 + pos ≤ pos; omega, by rw [List.append_nil]; exact hw, hl, zfr_rfl, rfl⟩
        simp only [zs_157_0, zs_157_1, zs_157_4, zs_157_5, zs_157_8, zs_157_11, zs_157_12, zs_157_13, zs_157_15, zs_157_18, zs_157_19, zs_157_21, zs_157_24, zs_157_25, zs_157_26, zs_157_29, zs_157_30, zs_157_31, zs_157_33, zs_157_36, zs_157_37, zs_157_39, zs_157_42, zs_157_43, zs_157_44, zs_157_47, zs_157_48, zs_157_49, zs_157_52, zs_157_53, zs_157_56, zs_157_58, zs_157_59, zs_157_60, zs_157_61, zs_157_64, zs_157_65, zs_157_66, zs_157_69, zs_157_72, zs_157_73, zs_157_76, zs_157_79, zs_157_80, zPar_rc hp, e5, yb_f, zbk_v, zts_s, ↓reduceIte]
theorem d_156 {f : Nat} (hA : yPA sv p cs f 0 4 153 6) : yPA sv p cs (f + 1) 4 0 156 4 := by
  intro op pos h ns D hmu hD hop hp hw hn hl
  have hmu2 : 400 * (7 - op) + 5 * (61 - pos) + 0 < f + 1 := hmu
  have h60 := hp.2.1.2.2.1
  obtain ⟨d, rfl⟩ : ∃ d, D = d + 5 := ⟨D - 5, by omega⟩
  obtain ⟨h1, e1, w1, f1⟩ := d_156a (sv := sv) (d := d + 3) (op := nI op) (s3 := .unset) (s4 := .unset) 6 0 pos h rfl hp hl
  have hn6 := yng_le (cs := cs) 6 pos
  have hnl := yng_len (cs := cs) 6 pos hl
  rw [ypa_4]
  obtain ⟨h2, e, x, e2, w2, w3, w4, w5, f2, w6⟩ := d_157 (sv := sv) (D := d + 4) (pos := pos + yng cs pos 6) hA (by omega) (by omega) hop w1 hw (by omega) hnl
  rw [nI_0, Nat.zero_add] at e1
  have e0 : zcall zP sv (d + 5) 156 [.ref p, .int (nI op)] h = zrun zP sv (zcall zP sv (d + 4)) 156 49 [.val (.ref p), .val (.int (nI op)), .val (.int (nI (yng cs pos 6))), .val (.int x), .val (.int 0)] [] h2 := by
    rw [zc_156, zs_156_0, zs_156_1 znw_u, e1]
    simp (disch := exact znw_u) only [zs_156_0, zs_156_1, zs_156_2, zs_156_3, zs_156_5, zs_156_8, zs_156_9, zs_156_12, zs_156_13, zs_156_16, zs_156_19, zs_156_21, zs_156_24, zs_156_27, zs_156_28, zs_156_29, zs_156_32, zs_156_33, zs_156_34, zs_156_37, zs_156_40, zs_156_41, zs_156_42, zs_156_45, zs_156_46, zs_156_47, zs_156_51, zs_156_52, zs_156_55, zs_156_56, zs_156_57, zs_156_60, zs_156_61, zs_156_64, zs_156_65, zs_156_68, zs_156_69, zs_156_72, zs_156_75, zs_156_76, zPar_rc w1, e2, zbk_v, zts_s]
  rw [e0]
  have hlen : (ns ++ e).length = ns.length + e.length := List.length_append
  cases hr : (ypu cs f op (pos + yng cs pos 6)).1 with
  | none =>
    rw [hr] at w6
    have hx : x = -1 := w6
    subst hx
    refine ⟨h2, e, -1, ?_, w2, by show e.length + pos ≤ (ypu cs f op (pos + yng cs pos 6)).2; omega, w4, w5, zfr_tr f1 f2, rfl⟩
    cases hz : yng cs pos 6 with
    | zero => simp only [zs_156_0, zs_156_1, zs_156_2, zs_156_3, zs_156_5, zs_156_8, zs_156_9, zs_156_12, zs_156_13, zs_156_16, zs_156_19, zs_156_21, zs_156_24, zs_156_27, zs_156_28, zs_156_29, zs_156_32, zs_156_33, zs_156_34, zs_156_37, zs_156_40, zs_156_41, zs_156_42, zs_156_45, zs_156_46, zs_156_47, zs_156_49, zs_156_51, zs_156_52, zs_156_55, zs_156_56, zs_156_57, zs_156_60, zs_156_61, zs_156_64, zs_156_65, zs_156_68, zs_156_69, zs_156_72, zs_156_75, zs_156_76, nI_0, Int32.lt_irrefl, ↓reduceIte]
    | succ k =>
      have g : (0 : Int32) < nI (k + 1) := by rw [← nI_0]; exact nI_lt (by omega) (by omega)
      simp only [zs_156_0, zs_156_1, zs_156_2, zs_156_3, zs_156_5, zs_156_8, zs_156_9, zs_156_12, zs_156_13, zs_156_16, zs_156_19, zs_156_21, zs_156_24, zs_156_27, zs_156_28, zs_156_29, zs_156_32, zs_156_33, zs_156_34, zs_156_37, zs_156_40, zs_156_41, zs_156_42, zs_156_45, zs_156_46, zs_156_47, zs_156_49, zs_156_51, zs_156_52, zs_156_55, zs_156_56, zs_156_57, zs_156_60, zs_156_61, zs_156_64, zs_156_65, zs_156_68, zs_156_69, zs_156_72, zs_156_75, zs_156_76, if_pos g, nI_m1e, ↓reduceIte]
  | some t =>
    rw [hr] at w6
    obtain ⟨h3, e', x', e3, p3, l3, z3, f3, t3⟩ := d_156b (sv := sv) (d := d + 1) (op := nI op) (n := yng cs pos 6) hn6 (yng cs pos 6) 0 h2 e x t (Nat.zero_add _) w2 w4 (by omega) w6
    rw [nI_0] at e3
    exact ⟨h3, e', x', e3, p3, by show e'.length + pos ≤ (ypu cs f op (pos + yng cs pos 6)).2; omega, z3, w5, zfr_tr (zfr_tr f1 f2) f3, t3⟩
theorem d_par : ∀ f, yPA sv p cs f 0 4 153 6 ∧ yPL sv p cs f 1 3 153 5 ∧ yPA sv p cs f 2 2 154 5 ∧ yPL sv p cs f 3 1 154 4 ∧ yPA sv p cs f 4 0 156 4
  | 0 => ⟨fun _ _ _ _ _ h => absurd h (Nat.not_lt_zero _), fun _ _ _ _ _ _ _ _ _ _ h => absurd h (Nat.not_lt_zero _), fun _ _ _ _ _ h => absurd h (Nat.not_lt_zero _), fun _ _ _ _ _ _ _ _ _ _ h => absurd h (Nat.not_lt_zero _), fun _ _ _ _ _ h => absurd h (Nat.not_lt_zero _)⟩
  | f + 1 => by
    obtain ⟨i1, i2, i3, i4, i5⟩ := d_par f
    exact ⟨d_153 i3 i2, d_153l i3 i2, d_154 i5 i4, d_154l i5 i4, d_156 i1⟩
end ZDV

/-- a range may change, cells may be made: at most N objects and M slots -/
def zfx (lo hi N M : Nat) (h h' : zH) : Prop := (∀ q, q < h.2.1 → (q < lo ∨ hi ≤ q) → h'.1 q = h.1 q) ∧ h.2.1 ≤ h'.2.1 ∧ h'.2.1 ≤ h.2.1 + N ∧ h'.2.2 ≤ h.2.2 + M
theorem zfx_fr {lo hi a b : Nat} {h h' : zH} (hf : zfr a b h h') (h1 : lo ≤ a) (h2 : b ≤ hi) : zfx lo hi 0 0 h h' := ⟨fun q _ hq => hf.1 q (by omega), by rw [hf.2]; exact Nat.le_refl _, by rw [hf.2]; exact Nat.le_refl _, by rw [hf.2]; exact Nat.le_refl _⟩
theorem zfx_tr {lo hi N M N' M' : Nat} {h h' h'' : zH} (h1 : zfx lo hi N M h h') (h2 : zfx lo hi N' M' h' h'') : zfx lo hi (N + N') (M + M') h h'' := ⟨fun q hq hr => (h2.1 q (Nat.lt_of_lt_of_le hq h1.2.1) hr).trans (h1.1 q hq hr), Nat.le_trans h1.2.1 h2.2.1, by have := h1.2.2.1; have := h2.2.2.1; omega, by have := h1.2.2.2; have := h2.2.2.2; omega⟩
theorem zfx_mono {lo hi N M lo' hi' N' M' : Nat} {h h' : zH} (h1 : zfx lo hi N M h h') (ha : lo' ≤ lo) (hb : hi ≤ hi') (hc : N ≤ N') (hd : M ≤ M') : zfx lo' hi' N' M' h h' := ⟨fun q hq hr => h1.1 q hq (by omega), h1.2.1, by have := h1.2.2.1; omega, by have := h1.2.2.2; omega⟩
theorem zfx_rfl {lo hi : Nat} {h : zH} : zfx lo hi 0 0 h h := ⟨fun _ _ _ => rfl, Nat.le_refl _, Nat.le_refl _, Nat.le_refl _⟩
theorem zcg_fx {lo hi a b N M : Nat} {h h' : zH} (hf : zfx a b N M h h') (h1 : hi ≤ a ∨ b ≤ lo) (h2 : hi ≤ h.2.1) : zcg lo hi h h' := fun q h3 h4 => hf.1 q (by omega) (by omega)
theorem zfx_new {lo hi : Nat} {h : zH} {L : List zC} {S : Nat} : zfx lo hi L.length S h (zext h L S) := ⟨fun q hq _ => zext_lo hq, by rw [zext_sz]; omega, by rw [zext_sz]; omega, Nat.le_refl _⟩
def zECc (m : Nat) (le ik : Int32) : zC := (1, [.ref (m + 1), .int le, .ref (m + 3), .ref (m + 7), .int ik, .ref (m + 11), .ref (m + 45), .ref (m + 54), .ref (m + 63), .ref (m + 75), .ref (m + 78), .ref (m + 85), .ref (m + 97)])
theorem ymap0 {n : Nat} : (List.replicate n (0 : Int32)).map Value.int = List.replicate n (.int 0) := List.map_replicate
section ZDW
variable {sv : Nat → Value} {d : Nat} {h : zH} {m w mw : Nat} {le ik x : Int32} {ns : List yN} {A B C : List Int32}
theorem d_75 (he : h.1 m = zECc m le ik) (hg : zGau h (m + 78) A B C) (hw : zTre h w mw ns) (hwf : ywf ns) (hn : ns.length ≤ 124) (hd : m + 85 ≤ w ∨ w + 9 ≤ m + 78) (hb1 : w + 9 ≤ h.2.1) (hb2 : m + 119 ≤ h.2.1) (hx : ych ns.length x) (hs0 : 0 < ysz (ygt (ytm ns) x)) (hs : ysz (ygt (ytm ns) x) ≤ 60000) (hdp : ydp (ygt (ytm ns) x) ≤ 40) : ∃ h' A', zcall zP sv (d + 45) 75 [.ref m, .ref w, .int x] h = some (.inl (some (.ref h.2.1)), h') ∧ zGau h' (m + 78) A' B C ∧ zTre h' h.2.1 (ysz (ygt (ytm ns) x)) (ypo 0 (ygt (ytm ns) x)) ∧ (∀ q, q < h.2.1 → (q < m + 78 ∨ m + 85 ≤ q) → h'.1 q = h.1 q) ∧ h'.2.1 = h.2.1 + 9 ∧ h'.2.2 = h.2.2 + 6 + 4 * (1 + ysz (ygt (ytm ns) x)) := by
  generalize ht : ygt (ytm ns) x = t at *
  have l0 : ∀ q, q < h.2.1 → (zext h [(6, [.null, .null, .null, .null, .int 0, .int 0])] 6).1 q = h.1 q := fun q hq => zext_lo hq
  have e0 : (zext h [(6, [.null, .null, .null, .null, .int 0, .int 0])] 6).1 m = zECc m le ik := by rw [l0 m (by omega), he]
  have g0 : zGau (zext h [(6, [.null, .null, .null, .null, .int 0, .int 0])] 6) (m + 78) A B C := zGau_cg hg (fun q h1 h2 => l0 q (by omega))
  have w0 : zTre (zext h [(6, [.null, .null, .null, .null, .int 0, .int 0])] 6) w mw ns := zTre_cg hw (fun q h1 h2 => l0 q (by omega))
  have r0 : (zext h [(6, [.null, .null, .null, .null, .int 0, .int 0])] 6).1 h.2.1 = (6, [.null, .null, .null, .null, .int 0, .int 0]) := zext_0
  have s0 : (zext h [(6, [.null, .null, .null, .null, .int 0, .int 0])] 6).2 = (h.2.1 + 1, h.2.2 + 6) := rfl
  have eq0 : znew h (6, [.null, .null, .null, .null, .int 0, .int 0]) 6 = zext h [(6, [.null, .null, .null, .null, .int 0, .int 0])] 6 := zext_of _ _ _
  generalize zext h [(6, [.null, .null, .null, .null, .int 0, .int 0])] 6 = h1 at *
  obtain ⟨h2, A', e1, g1, q1, f1⟩ := d_117 (sv := sv) (d := d + 40) (rt := x) hwf (by omega) hn w0 g0
  have hv : yg A' x = nI (ysz t) := by rw [yQ_g q1 hx (Nat.le_refl _) hwf.1, ht, yfo_N]
  rw [hv] at e1
  have r1 : h2.1 h.2.1 = (6, [.null, .null, .null, .null, .int 0, .int 0]) := by rw [f1.1 _ (by omega), r0]
  have s1 : h2.2 = (h.2.1 + 1, h.2.2 + 6) := by rw [f1.2, s0]
  have sz1 : h2.2.1 = h.2.1 + 1 := by rw [s1]
  have sl1 : h2.2.2 = h.2.2 + 6 := by rw [s1]
  have e2 := c_Tree (sv := sv) (d := d + 42) (h := h2) (r := h.2.1) (n := ysz t) r1 (by omega) hs0 (by omega)
  rw [sz1] at e2
  have l2 : ∀ q, q < h.2.1 → ∀ c L S, (zext (zup h2 h.2.1 c) L S).1 q = h2.1 q := fun q hq c L S => by rw [zext_lo (by rw [zup_sz, sz1]; omega), zup_ne (by omega)]
  have k2 : ∀ c L S j, (zext (zup h2 h.2.1 c) L S).1 (h.2.1 + 1 + j) = (L[j]?).getD ((zup h2 h.2.1 c).1 (h.2.1 + 1 + j)) := fun c L S j => by
    have := zext_hi (h := zup h2 h.2.1 c) (L := L) (S := S) (k := j)
    rw [zup_sz, sz1] at this
    exact this
  have t2 : ∀ c L S, (zext (zup h2 h.2.1 c) L S).1 h.2.1 = c := fun c L S => by rw [zext_lo (by rw [zup_sz, sz1]; omega), zup_at]
  obtain ⟨h3, rfl⟩ : ∃ h3, h3 = zext (zup h2 h.2.1 (6, [.ref (h.2.1 + 1), .ref (h.2.1 + 1 + 2), .ref (h.2.1 + 1 + 4), .ref (h.2.1 + 1 + 6), .int (nI (ysz t)), .int 0])) [(4, [.ref (h.2.1 + 1 + 1)]), (20, List.replicate (ysz t) (.int 0)), (4, [.ref (h.2.1 + 1 + 3)]), (20, List.replicate (ysz t) (.int 0)), (4, [.ref (h.2.1 + 1 + 5)]), (20, List.replicate (ysz t) (.int 0)), (4, [.ref (h.2.1 + 1 + 7)]), (20, List.replicate (ysz t) (.int 0))] (1 + ysz t + (1 + ysz t + (1 + ysz t + (1 + ysz t)))) := ⟨_, rfl⟩
  have T3 : zTre (zext (zup h2 h.2.1 (6, [.ref (h.2.1 + 1), .ref (h.2.1 + 1 + 2), .ref (h.2.1 + 1 + 4), .ref (h.2.1 + 1 + 6), .int (nI (ysz t)), .int 0])) [(4, [.ref (h.2.1 + 1 + 1)]), (20, List.replicate (ysz t) (.int 0)), (4, [.ref (h.2.1 + 1 + 3)]), (20, List.replicate (ysz t) (.int 0)), (4, [.ref (h.2.1 + 1 + 5)]), (20, List.replicate (ysz t) (.int 0)), (4, [.ref (h.2.1 + 1 + 7)]), (20, List.replicate (ysz t) (.int 0))] (1 + ysz t + (1 + ysz t + (1 + ysz t + (1 + ysz t))))) h.2.1 (ysz t) [] := by
    refine ⟨List.replicate (ysz t) 0, List.replicate (ysz t) 0, List.replicate (ysz t) 0, List.replicate (ysz t) 0, t2 _ _ _, ⟨⟨?_, ?_, ?_⟩, ⟨?_, ?_, ?_⟩, ⟨?_, ?_, ?_⟩, ⟨?_, ?_, ?_⟩⟩, ⟨List.length_replicate, List.length_replicate, List.length_replicate, List.length_replicate, Nat.zero_le _⟩, rfl, rfl, rfl, rfl⟩
    · exact k2 _ _ _ 0
    · rw [ymap0]; exact k2 _ _ _ 1
    · rw [List.length_replicate]; omega
    · exact k2 _ _ _ 2
    · rw [ymap0]; exact k2 _ _ _ 3
    · rw [List.length_replicate]; omega
    · exact k2 _ _ _ 4
    · rw [ymap0]; exact k2 _ _ _ 5
    · rw [List.length_replicate]; omega
    · exact k2 _ _ _ 6
    · rw [ymap0]; exact k2 _ _ _ 7
    · rw [List.length_replicate]; omega
  have W3 := zTre_cg (zTre_fr w0 f1 (by omega)) (fun q a1 a2 => l2 q (by omega) (6, [.ref (h.2.1 + 1), .ref (h.2.1 + 1 + 2), .ref (h.2.1 + 1 + 4), .ref (h.2.1 + 1 + 6), .int (nI (ysz t)), .int 0]) [(4, [.ref (h.2.1 + 1 + 1)]), (20, List.replicate (ysz t) (.int 0)), (4, [.ref (h.2.1 + 1 + 3)]), (20, List.replicate (ysz t) (.int 0)), (4, [.ref (h.2.1 + 1 + 5)]), (20, List.replicate (ysz t) (.int 0)), (4, [.ref (h.2.1 + 1 + 7)]), (20, List.replicate (ysz t) (.int 0))] (1 + ysz t + (1 + ysz t + (1 + ysz t + (1 + ysz t)))))
  have G3 := zGau_cg g1 (fun q a1 a2 => l2 q (by omega) (6, [.ref (h.2.1 + 1), .ref (h.2.1 + 1 + 2), .ref (h.2.1 + 1 + 4), .ref (h.2.1 + 1 + 6), .int (nI (ysz t)), .int 0]) [(4, [.ref (h.2.1 + 1 + 1)]), (20, List.replicate (ysz t) (.int 0)), (4, [.ref (h.2.1 + 1 + 3)]), (20, List.replicate (ysz t) (.int 0)), (4, [.ref (h.2.1 + 1 + 5)]), (20, List.replicate (ysz t) (.int 0)), (4, [.ref (h.2.1 + 1 + 7)]), (20, List.replicate (ysz t) (.int 0))] (1 + ysz t + (1 + ysz t + (1 + ysz t + (1 + ysz t)))))
  have S3 : (zext (zup h2 h.2.1 (6, [.ref (h.2.1 + 1), .ref (h.2.1 + 1 + 2), .ref (h.2.1 + 1 + 4), .ref (h.2.1 + 1 + 6), .int (nI (ysz t)), .int 0])) [(4, [.ref (h.2.1 + 1 + 1)]), (20, List.replicate (ysz t) (.int 0)), (4, [.ref (h.2.1 + 1 + 3)]), (20, List.replicate (ysz t) (.int 0)), (4, [.ref (h.2.1 + 1 + 5)]), (20, List.replicate (ysz t) (.int 0)), (4, [.ref (h.2.1 + 1 + 7)]), (20, List.replicate (ysz t) (.int 0))] (1 + ysz t + (1 + ysz t + (1 + ysz t + (1 + ysz t))))).2 = (h.2.1 + 1 + 8, h.2.2 + 6 + (1 + ysz t + (1 + ysz t + (1 + ysz t + (1 + ysz t))))) := by
    show (h2.2.1 + 8, h2.2.2 + (1 + ysz t + (1 + ysz t + (1 + ysz t + (1 + ysz t))))) = _
    rw [sz1, sl1]
  have L3 := fun q hq => l2 q hq (6, [.ref (h.2.1 + 1), .ref (h.2.1 + 1 + 2), .ref (h.2.1 + 1 + 4), .ref (h.2.1 + 1 + 6), .int (nI (ysz t)), .int 0]) [(4, [.ref (h.2.1 + 1 + 1)]), (20, List.replicate (ysz t) (.int 0)), (4, [.ref (h.2.1 + 1 + 3)]), (20, List.replicate (ysz t) (.int 0)), (4, [.ref (h.2.1 + 1 + 5)]), (20, List.replicate (ysz t) (.int 0)), (4, [.ref (h.2.1 + 1 + 7)]), (20, List.replicate (ysz t) (.int 0))] (1 + ysz t + (1 + ysz t + (1 + ysz t + (1 + ysz t))))
  generalize zext (zup h2 h.2.1 (6, [.ref (h.2.1 + 1), .ref (h.2.1 + 1 + 2), .ref (h.2.1 + 1 + 4), .ref (h.2.1 + 1 + 6), .int (nI (ysz t)), .int 0])) [(4, [.ref (h.2.1 + 1 + 1)]), (20, List.replicate (ysz t) (.int 0)), (4, [.ref (h.2.1 + 1 + 3)]), (20, List.replicate (ysz t) (.int 0)), (4, [.ref (h.2.1 + 1 + 5)]), (20, List.replicate (ysz t) (.int 0)), (4, [.ref (h.2.1 + 1 + 7)]), (20, List.replicate (ysz t) (.int 0))] (1 + ysz t + (1 + ysz t + (1 + ysz t + (1 + ysz t)))) = h3 at *
  obtain ⟨h4, e3, T4, f4⟩ := d_86 (sv := sv) hwf (show w + 9 ≤ h.2.1 ∨ h.2.1 + 9 ≤ w by omega) t x (d + 44) 1 h3 [] hx ht (by omega) (by omega) (by show 0 + ysz t ≤ ysz t; omega) W3 T3
  refine ⟨h4, A', ?_, zGau_fr G3 f4 (by omega), T4, fun q hq hr => by rw [f4.1 q (by omega), L3 q hq, f1.1 q (by omega), l0 q hq], by rw [f4.2, S3], by rw [f4.2, S3]; show h.2.2 + 6 + (1 + ysz t + (1 + ysz t + (1 + ysz t + (1 + ysz t)))) = _; omega⟩
  have rc6 : ∀ X : zR, zrc (h2.1 h.2.1) 6 X = X := fun X => by rw [r1]; exact zrc_k
  simp (disch := exact znw_u) only [zc_75, zs_75_0, zs_75_3, zs_75_4, zs_75_5, zs_75_8, zs_75_9, zs_75_10, zs_75_13, zs_75_16, zs_75_17, zs_75_18, zs_75_19, zs_75_20, zs_75_21, zs_75_24, zs_75_25, zs_75_26, eq0, e0, zECc, zrc_1, zf_1_0, zp_1_0, zp_1_0n, zf_1_1, zp_1_1, zf_1_2, zp_1_2, zp_1_2n, zf_1_3, zp_1_3, zp_1_3n, zf_1_4, zp_1_40, zp_1_41, zf_1_5, zp_1_5, zp_1_5n, zf_1_6, zp_1_6, zp_1_6n, zf_1_7, zp_1_7, zp_1_7n, zf_1_8, zp_1_8, zp_1_8n, zf_1_9, zp_1_9, zp_1_9n, zf_1_10, zp_1_10, zp_1_10n, zf_1_11, zp_1_11, zp_1_11n, zf_1_12, zp_1_12, zp_1_12n, zGau_rc g0, e1, rc6, e2, e3, zbk_v, zts_s, zts_n]
end ZDW
