section ZRJ
variable {sv : Nat → Value} {d : Nat} {u : Nat}
/-- the numbering: parts ps, numbers B -/
def zNmC (h : zH) (u : Nat) (ps : List yN) (B : List Int32) : Prop := h.1 u = (11, [.ref (u + 1), .ref (u + 10)]) ∧ zTre h (u + 1) 62 ps ∧ zRow h (u + 10) B ∧ B.length = 31
def yfd (nd : yN) : List yN → Nat → Option Nat
  | [], _ => none
  | x :: r, k => if x = nd then some k else yfd nd r (k + 1)
def ynst (ps : List yN) (nd : yN) : Int32 × List yN := match yfd nd ps 0 with
  | some k => (nI k, ps)
  | none => if ps.length < 62 then (nI ps.length, ps ++ [nd]) else (-1, ps)
theorem d_147l {h : zH} {ps : List yN} {B : List Int32} {nd : yN} (hc : zNmC h u ps B) : ∀ n j, j + n = ps.length → (∀ k, yfd nd (ps.drop j) j = some k → zrun zP sv (zcall zP sv (d + 2)) 147 3 [.val (.ref u), .val (.int nd.1), .val (.int nd.2.1), .val (.int nd.2.2.1), .val (.int nd.2.2.2), .val (.int (nI j))] [] h = some (.inl (some (.int (nI k))), h)) ∧ (yfd nd (ps.drop j) j = none → zrun zP sv (zcall zP sv (d + 2)) 147 3 [.val (.ref u), .val (.int nd.1), .val (.int nd.2.1), .val (.int nd.2.2.1), .val (.int nd.2.2.2), .val (.int (nI j))] [] h = zrun zP sv (zcall zP sv (d + 2)) 147 77 [.val (.ref u), .val (.int nd.1), .val (.int nd.2.1), .val (.int nd.2.2.1), .val (.int nd.2.2.2), .val (.int (nI ps.length))] [] h) := by
  obtain ⟨c0, ht, _⟩ := hc
  have hlen : ps.length ≤ 62 := by
    obtain ⟨K, N, L, R, _, _, ⟨_, _, _, _, z⟩, _⟩ := ht
    exact z
  have e1 : zcall zP sv (d + 2) 182 [.ref (u + 1)] h = _ := d_182 (d := d + 1) ht
  have r : ∀ X : zR, zrc (h.1 (u + 1)) 6 X = X := fun X => zTre_rc ht
  intro n
  induction n with
  | zero =>
    intro j hj
    obtain rfl : j = ps.length := by omega
    rw [List.drop_length]
    refine ⟨fun k hk => (by cases hk), fun _ => ?_⟩
    simp only [zs_147_3, zs_147_5, zs_147_6, zs_147_9, zs_147_12, c0, zrc_11, zf_11_0, zp_11_0, zp_11_0n, zf_11_1, zp_11_1, zp_11_1n, r, e1, zbk_v, zts_s, Int32.lt_irrefl, ↓reduceIte, List.cons_append, List.nil_append]
  | succ n ih =>
    intro j hj
    have c1 : nI j < nI ps.length := nI_lt (by omega) (by omega)
    obtain ⟨x, hx⟩ := ynd_ex (ns := ps) (i := j) (by omega)
    have hdr : ps.drop j = x :: ps.drop (j + 1) := by
      rw [List.drop_eq_getElem_cons (by omega)]
      rw [List.getElem?_eq_getElem (by omega)] at hx
      rw [Option.some.inj hx]
    have k4 : zcall zP sv (d + 2) 184 [.ref (u + 1), .int (nI j)] h = _ := d_184 (d := d) ht hx
    have k5 : zcall zP sv (d + 2) 185 [.ref (u + 1), .int (nI j)] h = _ := d_185 (d := d) ht hx
    have k6 : zcall zP sv (d + 2) 186 [.ref (u + 1), .int (nI j)] h = _ := d_186 (d := d) ht hx
    have k7 : zcall zP sv (d + 2) 187 [.ref (u + 1), .int (nI j)] h = _ := d_187 (d := d) ht hx
    have eb : zrun zP sv (zcall zP sv (d + 2)) 147 71 [.val (.ref u), .val (.int nd.1), .val (.int nd.2.1), .val (.int nd.2.2.1), .val (.int nd.2.2.2), .val (.int (nI j))] [] h = zrun zP sv (zcall zP sv (d + 2)) 147 3 [.val (.ref u), .val (.int nd.1), .val (.int nd.2.1), .val (.int nd.2.2.1), .val (.int nd.2.2.2), .val (.int (nI (j + 1)))] [] h := by rw [zs_147_71, zs_147_74, nI_1']
    obtain ⟨i1, i2⟩ := ih (j + 1) (by omega)
    rw [hdr]
    by_cases c : x = nd
    · subst c
      have q : yfd x (x :: ps.drop (j + 1)) j = some j := by unfold yfd; rw [if_pos rfl]
      rw [q]
      refine ⟨fun k hk => ?_, fun hk => (by cases hk)⟩
      cases hk
      simp only [zs_147_0, zs_147_1, zs_147_3, zs_147_5, zs_147_5n, zs_147_6, zs_147_9, zs_147_12, zs_147_15, zs_147_15n, zs_147_16, zs_147_19, zs_147_21, zs_147_24, zs_147_25, zs_147_28, zs_147_28n, zs_147_29, zs_147_32, zs_147_34, zs_147_37, zs_147_38, zs_147_41, zs_147_41n, zs_147_42, zs_147_45, zs_147_47, zs_147_50, zs_147_51, zs_147_54, zs_147_54n, zs_147_55, zs_147_58, zs_147_60, zs_147_63, zs_147_65, zs_147_68, zs_147_70, zs_147_78, zs_147_81, zs_147_82, zs_147_83, zs_147_84, zs_147_86, zs_147_89, c0, zrc_11, zf_11_0, zp_11_0, zp_11_0n, zf_11_1, zp_11_1, zp_11_1n, r, e1, k4, k5, k6, k7, if_pos c1, zbk_v, zts_s, ↓reduceIte, List.cons_append, List.nil_append]
    · have q : yfd nd (x :: ps.drop (j + 1)) j = yfd nd (ps.drop (j + 1)) (j + 1) := by conv => lhs; unfold yfd; rw [if_neg c]
      have e : zrun zP sv (zcall zP sv (d + 2)) 147 3 [.val (.ref u), .val (.int nd.1), .val (.int nd.2.1), .val (.int nd.2.2.1), .val (.int nd.2.2.2), .val (.int (nI j))] [] h = zrun zP sv (zcall zP sv (d + 2)) 147 3 [.val (.ref u), .val (.int nd.1), .val (.int nd.2.1), .val (.int nd.2.2.1), .val (.int nd.2.2.2), .val (.int (nI (j + 1)))] [] h := by
        rw [← eb]
        by_cases p1 : x.1 = nd.1
        · by_cases p2 : x.2.1 = nd.2.1
          · by_cases p3 : x.2.2.1 = nd.2.2.1
            · have p4 : ¬ x.2.2.2 = nd.2.2.2 := fun z => c (Prod.ext p1 (Prod.ext p2 (Prod.ext p3 z)))
              simp only [zs_147_0, zs_147_1, zs_147_3, zs_147_5, zs_147_5n, zs_147_6, zs_147_9, zs_147_12, zs_147_15, zs_147_15n, zs_147_16, zs_147_19, zs_147_21, zs_147_24, zs_147_25, zs_147_28, zs_147_28n, zs_147_29, zs_147_32, zs_147_34, zs_147_37, zs_147_38, zs_147_41, zs_147_41n, zs_147_42, zs_147_45, zs_147_47, zs_147_50, zs_147_51, zs_147_54, zs_147_54n, zs_147_55, zs_147_58, zs_147_60, zs_147_63, zs_147_65, zs_147_68, zs_147_70, zs_147_78, zs_147_81, zs_147_82, zs_147_83, zs_147_84, zs_147_86, zs_147_89, c0, zrc_11, zf_11_0, zp_11_0, zp_11_0n, zf_11_1, zp_11_1, zp_11_1n, r, e1, k4, k5, k6, k7, if_pos c1, if_pos p1, if_pos p2, if_pos p3, if_neg p4, zbk_v, zts_s, List.cons_append, List.nil_append]
            · simp only [zs_147_0, zs_147_1, zs_147_3, zs_147_5, zs_147_5n, zs_147_6, zs_147_9, zs_147_12, zs_147_15, zs_147_15n, zs_147_16, zs_147_19, zs_147_21, zs_147_24, zs_147_25, zs_147_28, zs_147_28n, zs_147_29, zs_147_32, zs_147_34, zs_147_37, zs_147_38, zs_147_41, zs_147_41n, zs_147_42, zs_147_45, zs_147_47, zs_147_50, zs_147_51, zs_147_54, zs_147_54n, zs_147_55, zs_147_58, zs_147_60, zs_147_63, zs_147_65, zs_147_68, zs_147_70, zs_147_78, zs_147_81, zs_147_82, zs_147_83, zs_147_84, zs_147_86, zs_147_89, c0, zrc_11, zf_11_0, zp_11_0, zp_11_0n, zf_11_1, zp_11_1, zp_11_1n, r, e1, k4, k5, k6, if_pos c1, if_pos p1, if_pos p2, if_neg p3, zbk_v, zts_s, List.cons_append, List.nil_append]
          · simp only [zs_147_0, zs_147_1, zs_147_3, zs_147_5, zs_147_5n, zs_147_6, zs_147_9, zs_147_12, zs_147_15, zs_147_15n, zs_147_16, zs_147_19, zs_147_21, zs_147_24, zs_147_25, zs_147_28, zs_147_28n, zs_147_29, zs_147_32, zs_147_34, zs_147_37, zs_147_38, zs_147_41, zs_147_41n, zs_147_42, zs_147_45, zs_147_47, zs_147_50, zs_147_51, zs_147_54, zs_147_54n, zs_147_55, zs_147_58, zs_147_60, zs_147_63, zs_147_65, zs_147_68, zs_147_70, zs_147_78, zs_147_81, zs_147_82, zs_147_83, zs_147_84, zs_147_86, zs_147_89, c0, zrc_11, zf_11_0, zp_11_0, zp_11_0n, zf_11_1, zp_11_1, zp_11_1n, r, e1, k4, k5, if_pos c1, if_pos p1, if_neg p2, zbk_v, zts_s, List.cons_append, List.nil_append]
        · simp only [zs_147_0, zs_147_1, zs_147_3, zs_147_5, zs_147_5n, zs_147_6, zs_147_9, zs_147_12, zs_147_15, zs_147_15n, zs_147_16, zs_147_19, zs_147_21, zs_147_24, zs_147_25, zs_147_28, zs_147_28n, zs_147_29, zs_147_32, zs_147_34, zs_147_37, zs_147_38, zs_147_41, zs_147_41n, zs_147_42, zs_147_45, zs_147_47, zs_147_50, zs_147_51, zs_147_54, zs_147_54n, zs_147_55, zs_147_58, zs_147_60, zs_147_63, zs_147_65, zs_147_68, zs_147_70, zs_147_78, zs_147_81, zs_147_82, zs_147_83, zs_147_84, zs_147_86, zs_147_89, c0, zrc_11, zf_11_0, zp_11_0, zp_11_0n, zf_11_1, zp_11_1, zp_11_1n, r, e1, k4, if_pos c1, if_neg p1, zbk_v, zts_s, List.cons_append, List.nil_append]
      rw [q, e]
      exact ⟨i1, i2⟩
theorem d_147 {h : zH} {ps : List yN} {B : List Int32} {nd : yN} (hc : zNmC h u ps B) : ∃ h', zcall zP sv (d + 3) 147 [.ref u, .int nd.1, .int nd.2.1, .int nd.2.2.1, .int nd.2.2.2] h = some (.inl (some (.int (ynst ps nd).1)), h') ∧ zNmC h' u (ynst ps nd).2 B ∧ zfr u (u + 12) h h' := by
  have hc' := hc
  obtain ⟨c0, ht, hr, hb⟩ := hc
  have hlen : ps.length ≤ 62 := by
    obtain ⟨K, N, L, R, _, _, ⟨_, _, _, _, z⟩, _⟩ := ht
    exact z
  obtain ⟨i1, i2⟩ := d_147l (sv := sv) (d := d) (nd := nd) hc' ps.length 0 (Nat.zero_add _)
  rw [List.drop_zero, nI_0] at i1 i2
  have e0 : zcall zP sv (d + 3) 147 [.ref u, .int nd.1, .int nd.2.1, .int nd.2.2.1, .int nd.2.2.2] h = zrun zP sv (zcall zP sv (d + 2)) 147 3 [.val (.ref u), .val (.int nd.1), .val (.int nd.2.1), .val (.int nd.2.2.1), .val (.int nd.2.2.2), .val (.int 0)] [] h := by
    simp (disch := first | exact znw_u | exact znw_i) only [zc_147, zs_147_0, zs_147_1]
  have r : ∀ X : zR, zrc (h.1 (u + 1)) 6 X = X := fun X => zTre_rc ht
  rw [e0]
  unfold ynst
  cases hf : yfd nd ps 0 with
  | some k => exact ⟨h, i1 k hf, hc', zfr_rfl⟩
  | none =>
    by_cases c : ps.length < 62
    · obtain ⟨h', e, t1, f⟩ := d_191 (sv := sv) (d := d) (k := nd.1) (n := nd.2.1) (l := nd.2.2.1) (r := nd.2.2.2) ht c
      simp only [if_pos c]
      refine ⟨h', ?_, ⟨by rw [f.1 _ (by omega), c0], t1, zRow_fr hr f (by omega), hb⟩, zfr_mono f (by omega) (by omega)⟩
      rw [i2 hf]
      simp only [zs_147_77, zs_147_78, zs_147_81, zs_147_82, zs_147_83, zs_147_84, zs_147_86, zs_147_89, c0, zrc_11, zf_11_0, zp_11_0, zp_11_0n, zf_11_1, zp_11_1, zp_11_1n, r, e, zbk_v, zts_s, List.cons_append, List.nil_append]
    · have e := d_191f (sv := sv) (d := d) (k := nd.1) (n := nd.2.1) (l := nd.2.2.1) (r := nd.2.2.2) ht (show ps.length = 62 by omega)
      simp only [if_neg c]
      refine ⟨h, ?_, hc', zfr_rfl⟩
      rw [i2 hf]
      simp only [zs_147_77, zs_147_78, zs_147_81, zs_147_82, zs_147_83, zs_147_84, zs_147_86, zs_147_89, c0, zrc_11, zf_11_0, zp_11_0, zp_11_0n, zf_11_1, zp_11_1, zp_11_1n, r, e, zbk_v, zts_s, List.cons_append, List.nil_append]
def ynof (B : List Int32) (x : Int32) : Int32 := if x = -1 then -1 else yg B x
theorem d_146 {h : zH} {ps : List yN} {B : List Int32} {x : Int32} (hc : zNmC h u ps B) : zcall zP sv (d + 2) 146 [.ref u, .int x] h = some (.inl (some (.int (ynof B x))), h) := by
  have e : zcall zP sv (d + 1) 165 [.ref (u + 10), .int x] h = _ := d_165 hc.2.2.1
  unfold ynof
  by_cases c : x = -1
  · rw [if_pos c]
    simp only [zc_146, zs_146_0, zs_146_1, zs_146_2, zs_146_5, zs_146_6, zs_146_9, zs_146_9n, zs_146_10, zs_146_13, zs_146_14, zs_146_17, if_pos c]
  · rw [if_neg c]
    simp only [zc_146, zs_146_0, zs_146_1, zs_146_2, zs_146_5, zs_146_6, zs_146_9, zs_146_9n, zs_146_10, zs_146_13, zs_146_14, zs_146_17, if_neg c, hc.1, zrc_11, zf_11_0, zp_11_0, zp_11_0n, zf_11_1, zp_11_1, zp_11_1n, zRow_rc hc.2.2.1, e, zbk_v, zts_s, List.cons_append, List.nil_append]
/-- what including a tree's nodes does -/
def yinc : List yN → Nat → List yN × List Int32 → List yN × List Int32
  | [], _, s => s
  | nd :: r, i, s => yinc r (i + 1) ((ynst s.1 (nd.1, nd.2.1, ynof s.2 nd.2.2.1, ynof s.2 nd.2.2.2)).2, ys s.2 (nI i) (ynst s.1 (nd.1, nd.2.1, ynof s.2 nd.2.2.1, ynof s.2 nd.2.2.2)).1)
theorem d_145l {a mt : Nat} {ns : List yN} (hd : a + 9 ≤ u ∨ u + 12 ≤ a) (hn : ns.length ≤ 31) : ∀ n i (h : zH) (ps : List yN) (B : List Int32), i + n = ns.length → zTre h a mt ns → zNmC h u ps B → ∃ h', zrun zP sv (zcall zP sv (d + 3)) 145 2 [.val (.ref u), .val (.ref a), .val (.int (nI i))] [] h = some (.inl none, h') ∧ zNmC h' u (yinc (ns.drop i) i (ps, B)).1 (yinc (ns.drop i) i (ps, B)).2 ∧ zfr u (u + 12) h h' := by
  intro n
  induction n with
  | zero =>
    intro i h ps B hi ht hc
    obtain rfl : i = ns.length := by omega
    have e1 : zcall zP sv (d + 3) 182 [.ref a] h = _ := d_182 (d := d + 2) ht
    refine ⟨h, ?_, by rw [List.drop_length]; exact hc, zfr_rfl⟩
    simp only [zs_145_2, zs_145_3, zs_145_4, zs_145_7, zs_145_56, zTre_rc ht, e1, zbk_v, zts_s, Int32.lt_irrefl, ↓reduceIte, List.cons_append, List.nil_append]
  | succ n ih =>
    intro i h ps B hi ht hc
    have c1 : nI i < nI ns.length := nI_lt (by omega) (by omega)
    obtain ⟨nd, hnd⟩ := ynd_ex (ns := ns) (i := i) (by omega)
    have hdr : ns.drop i = nd :: ns.drop (i + 1) := by
      rw [List.drop_eq_getElem_cons (by omega)]
      have hnd2 := hnd
      rw [List.getElem?_eq_getElem (by omega)] at hnd2
      rw [Option.some.inj hnd2]
    have c0 := hc.1
    have hB := hc.2.2.2
    have e1 : zcall zP sv (d + 3) 182 [.ref a] h = _ := d_182 (d := d + 2) ht
    have k4 : zcall zP sv (d + 3) 184 [.ref a, .int (nI i)] h = _ := d_184 (d := d + 1) ht hnd
    have k5 : zcall zP sv (d + 3) 185 [.ref a, .int (nI i)] h = _ := d_185 (d := d + 1) ht hnd
    have k6 : zcall zP sv (d + 3) 186 [.ref a, .int (nI i)] h = _ := d_186 (d := d + 1) ht hnd
    have k7 : zcall zP sv (d + 3) 187 [.ref a, .int (nI i)] h = _ := d_187 (d := d + 1) ht hnd
    have n6 : ∀ x, zcall zP sv (d + 3) 146 [.ref u, .int x] h = some (.inl (some (.int (ynof B x))), h) := fun x => d_146 (d := d + 1) hc
    obtain ⟨h1, e2, s1, f1⟩ := d_147 (sv := sv) (d := d) (nd := (nd.1, nd.2.1, ynof B nd.2.2.1, ynof B nd.2.2.2)) hc
    have e2' : zcall zP sv (d + 3) 147 [.ref u, .int nd.1, .int nd.2.1, .int (ynof B nd.2.2.1), .int (ynof B nd.2.2.2)] h = _ := e2
    have ht1 := zTre_fr ht f1 (by omega)
    have hr1 := s1.2.2.1
    have e3 : zcall zP sv (d + 3) 166 [.ref (u + 10), .int (nI i), .int (ynst ps (nd.1, nd.2.1, ynof B nd.2.2.1, ynof B nd.2.2.2)).1] h1 = _ := d_166 (d := d + 2) hr1
    obtain ⟨h2, hh2⟩ : ∃ h2, h2 = zup h1 (u + 10 + 1) (20, (ys B (nI i) (ynst ps (nd.1, nd.2.1, ynof B nd.2.2.1, ynof B nd.2.2.2)).1).map Value.int) := ⟨_, rfl⟩
    rw [← hh2] at e3
    have f2 : zfr u (u + 12) h1 h2 := by rw [hh2]; exact zfr_up (by omega) (by omega)
    have s2 : zNmC h2 u (ynst ps (nd.1, nd.2.1, ynof B nd.2.2.1, ynof B nd.2.2.2)).2 (ys B (nI i) (ynst ps (nd.1, nd.2.1, ynof B nd.2.2.1, ynof B nd.2.2.2)).1) := ⟨by rw [hh2, zup_ne (by omega), s1.1], zTre_cg s1.2.1 (fun z z1 z2 => by rw [hh2, zup_ne (by omega)]), by rw [hh2]; exact zRow_new hr1 ys_len, by rw [ys_len, hB]⟩
    obtain ⟨h3, e4, s3, f3⟩ := ih (i + 1) h2 _ _ (by omega) (zTre_fr ht1 f2 (by omega)) s2
    refine ⟨h3, ?_, by rw [hdr]; exact s3, zfr_tr (zfr_tr f1 f2) f3⟩
    rw [← e4]
    have eb : zrun zP sv (zcall zP sv (d + 3)) 145 50 [.val (.ref u), .val (.ref a), .val (.int (nI i))] [] h2 = zrun zP sv (zcall zP sv (d + 3)) 145 2 [.val (.ref u), .val (.ref a), .val (.int (nI (i + 1)))] [] h2 := by rw [zs_145_50, zs_145_53, nI_1']
    rw [← eb]
    have ru : ∀ X : zR, zrc (h.1 u) 11 X = X := fun X => by rw [c0]; exact zrc_k
    have r1 : ∀ X : zR, zrc (h1.1 (u + 10)) 4 X = X := fun X => zRow_rc hr1
    simp (disch := first | exact znw_u | exact znw_i) only [zs_145_0, zs_145_1, zs_145_2, zs_145_3, zs_145_3n, zs_145_4, zs_145_7, zs_145_10, zs_145_10n, zs_145_11, zs_145_14, zs_145_15, zs_145_15n, zs_145_16, zs_145_16n, zs_145_17, zs_145_18, zs_145_21, zs_145_21n, zs_145_22, zs_145_23, zs_145_26, zs_145_26n, zs_145_27, zs_145_27n, zs_145_28, zs_145_29, zs_145_32, zs_145_35, zs_145_35n, zs_145_36, zs_145_36n, zs_145_37, zs_145_38, zs_145_41, zs_145_44, zs_145_47, zs_145_56, zTre_rc ht, e1, if_pos c1, c0, zrc_11, zf_11_0, zp_11_0, zp_11_0n, zf_11_1, zp_11_1, zp_11_1n, k4, k5, k6, k7, n6, ru, e2', r1, e3, zbk_v, zts_s, zts_n, List.cons_append, List.nil_append]
theorem d_145 {a mt : Nat} {ns : List yN} {h : zH} {ps : List yN} {B : List Int32} (hd : a + 9 ≤ u ∨ u + 12 ≤ a) (hn : ns.length ≤ 31) (ht : zTre h a mt ns) (hc : zNmC h u ps B) : ∃ h', zcall zP sv (d + 4) 145 [.ref u, .ref a] h = some (.inl none, h') ∧ zNmC h' u (yinc ns 0 (ps, B)).1 (yinc ns 0 (ps, B)).2 ∧ zfr u (u + 12) h h' := by
  obtain ⟨h', e, s, f⟩ := d_145l (sv := sv) (d := d) hd hn ns.length 0 h ps B (Nat.zero_add _) ht hc
  rw [List.drop_zero] at s
  rw [nI_0] at e
  refine ⟨h', ?_, s, f⟩
  rw [← e]
  simp (disch := first | exact znw_u | exact znw_i) only [zc_145, zs_145_0, zs_145_1]
end ZRJ
section ZRK
variable {sv : Nat → Value} {d : Nat} {h : zH} {m : Nat} {w : yW} {i j : Nat} {t s : yT}
theorem zCls_num {h' : zH} {ps : List yN} {B : List Int32} (hc : zCls h m w) (hf : zfr (m + 85) (m + 97) h h') (hd : zNmC h' (m + 85) ps B) : zCls h' m w := by
  refine zCls_q hc (zcg_fr hf (by omega)) (zcg_fr hf (by omega)) (zkp_fr hf (by omega)) ?_
  obtain ⟨⟨n1, a1⟩, ⟨n2, a2⟩, ⟨P, a3⟩, ⟨A, B', C, a4⟩, a5, a6⟩ := hc.2.2.2.2.2.2.1
  exact ⟨⟨n1, zTre_cg a1 (zcg_fr hf (by omega))⟩, ⟨n2, zTre_cg a2 (zcg_fr hf (by omega))⟩, ⟨P, zAl_cg a3 (zcg_fr hf (by omega))⟩, ⟨A, B', C, zGau_cg a4 (zcg_fr hf (by omega))⟩, ⟨hd.1, ⟨ps, hd.2.1⟩, B, hd.2.2.1, hd.2.2.2⟩, zCod_cg a6 (zcg_fr hf (by omega))⟩
/-- the parts of a formula by numbers -/
theorem d_77 {a : Nat} (hc : zCls h m w) (a1 : m + 139 ≤ a) (a3 : zTre h a (ysz t) (ypo 0 t)) (a4 : ytok t) : ∃ h' B0 , zcall zP sv (d + 46) 77 [.ref m, .ref a] h = some (.inl (some (.int (nI (yinc (ypo 0 t) 0 ([], B0)).1.length))), h') ∧ zCls h' m w ∧ zNmC h' (m + 85) (yinc (ypo 0 t) 0 ([], B0)).1 (yinc (ypo 0 t) 0 ([], B0)).2 ∧ B0.length = 31 ∧ zfr (m + 85) (m + 97) h h' := by
  have q1 := zCls_0 hc
  obtain ⟨n0, ⟨ps, n1⟩, B, n2, n3⟩ := hc.2.2.2.2.2.2.1.2.2.2.2.1
  have hsz := a4.2.1
  obtain ⟨h1, e1, t1, f1⟩ := d_190 (sv := sv) (d := d + 43) n1
  have s1 : zNmC h1 (m + 85) [] B := ⟨by rw [f1.1 _ (by omega), n0], t1, zRow_fr n2 f1 (by omega), n3⟩
  have f1' : zfr (m + 85) (m + 97) h h1 := zfr_mono f1 (by omega) (by omega)
  have c1 := zCls_num hc f1' s1
  have q2 := zCls_0 c1
  obtain ⟨h2, e2, s2, f2⟩ := d_145 (sv := sv) (d := d + 41) (u := m + 85) (show a + 9 ≤ m + 85 ∨ m + 85 + 12 ≤ a by omega) (by rw [ypo_len]; omega) (zTre_fr a3 f1' (by omega)) s1
  have c2 := zCls_num c1 f2 s2
  have q3 := zCls_0 c2
  have e3 : zcall zP sv (d + 44) 182 [.ref (m + 85 + 1)] h2 = _ := d_182 (d := d + 43) s2.2.1
  have e143 : zcall zP sv (d + 45) 143 [.ref (m + 85)] h = some (.inl none, h1) := by
    simp only [zc_143, zs_143_0, zs_143_0n, zs_143_1, zs_143_4, zs_143_7, n0, zrc_11, zf_11_0, zp_11_0, zp_11_0n, zf_11_1, zp_11_1, zp_11_1n, zTre_rc n1, e1, zbk_v, zts_n, List.cons_append, List.nil_append]
  have e144 : zcall zP sv (d + 45) 144 [.ref (m + 85)] h2 = some (.inl (some (.int (nI (yinc (ypo 0 t) 0 ([], B)).1.length))), h2) := by
    simp only [zc_144, zs_144_0, zs_144_0n, zs_144_1, zs_144_4, zs_144_7, s2.1, zrc_11, zf_11_0, zp_11_0, zp_11_0n, zf_11_1, zp_11_1, zp_11_1n, zTre_rc s2.2.1, e3, zbk_v, zts_s, List.cons_append, List.nil_append]
  have r : ∀ X : zR, zrc (h.1 (m + 85)) 11 X = X := fun X => by rw [n0]; exact zrc_k
  have r1 : ∀ X : zR, zrc (h1.1 (m + 85)) 11 X = X := fun X => by rw [s1.1]; exact zrc_k
  have r2 : ∀ X : zR, zrc (h2.1 (m + 85)) 11 X = X := fun X => by rw [s2.1]; exact zrc_k
  refine ⟨h2, B, ?_, c2, s2, n3, zfr_tr f1' f2⟩
  simp (disch := exact znw_u) only [zc_77, zs_77_0, zs_77_0n, zs_77_1, zs_77_4, zs_77_7, zs_77_7n, zs_77_8, zs_77_11, zs_77_11n, zs_77_12, zs_77_15, zs_77_15n, zs_77_16, zs_77_19, zs_77_22, q1, q2, q3, zECc, zrc_1, zf_1_0, zp_1_0, zp_1_0n, zf_1_1, zp_1_1, zf_1_2, zp_1_2, zp_1_2n, zf_1_3, zp_1_3, zp_1_3n, zf_1_4, zp_1_40, zp_1_41, zf_1_5, zp_1_5, zp_1_5n, zf_1_6, zp_1_6, zp_1_6n, zf_1_7, zp_1_7, zp_1_7n, zf_1_8, zp_1_8, zp_1_8n, zf_1_9, zp_1_9, zp_1_9n, zf_1_10, zp_1_10, zp_1_10n, zf_1_11, zp_1_11, zp_1_11n, zf_1_12, zp_1_12, zp_1_12n, r, r1, r2, e143, e2, e144, zbk_v, zts_s, zts_n, List.cons_append, List.nil_append]
theorem d_42 (hc : zCls h m w) (hi : (ycur w).1[i]? = some t) : ∃ B0, B0.length = 31 ∧ zEnd h m (zcall zP sv (d + 48) 42 [.ref m, .int (nI i)] h) 0 0 (.inl (some (.int (nI (yinc (ypo 0 t) 0 ([], B0)).1.length)))) w := by
  obtain ⟨a, e0, a1, a2, a3, a4⟩ := d_70k (sv := sv) (d := d + 45) hc hi
  obtain ⟨h1, B0, e1, c1, s1, b1, f1⟩ := d_77 (sv := sv) (d := d + 1) hc a1 a3 a4
  refine ⟨B0, b1, h1, ?_, c1, zfr_fx f1 (by omega) (by omega)⟩
  simp (disch := exact znw_u) only [zc_42, zs_42_0, zs_42_0n, zs_42_1, zs_42_1n, zs_42_2, zs_42_3, zs_42_6, zs_42_9, zEC1 hc, e0, e1, zbk_v, zts_s, zts_n, List.cons_append, List.nil_append]
theorem d_44 (hc : zCls h m w) (hi : (ycur w).1[i]? = some t) (hj : (ycur w).1[j]? = some s) : ∃ B0 B1, B0.length = 31 ∧ B1.length = 31 ∧ zEnd h m (zcall zP sv (d + 48) 44 [.ref m, .int (nI i), .int (nI j)] h) 0 0 (.inl (some (.int (nI (yinc (ypo 0 t) 0 ([], B1)).1.length + nI (yinc (ypo 0 s) 0 ([], B0)).1.length - nI (yinc (ypo 0 s) 0 (yinc (ypo 0 t) 0 ([], B1))).1.length)))) w := by
  have q1 := zCls_0 hc
  obtain ⟨a, e0, a1, a2, a3, a4⟩ := d_70k (sv := sv) (d := d + 45) hc hi
  obtain ⟨b, e0', b1, b2, b3, b4⟩ := d_70k (sv := sv) (d := d + 45) hc hj
  obtain ⟨h1, B0, e1, c1, s1, l1, f1⟩ := d_77 (sv := sv) (d := d + 1) hc b1 b3 b4
  have a3' := zTre_fr a3 f1 (by omega)
  have b3' := zTre_fr b3 f1 (by omega)
  obtain ⟨h2, B1, e2, c2, s2, l2, f2⟩ := d_77 (sv := sv) (d := d + 1) c1 a1 a3' a4
  have b3'' := zTre_fr b3' f2 (by omega)
  have hsz := b4.2.1
  obtain ⟨h3, e3, s3, f3⟩ := d_145 (sv := sv) (d := d + 43) (u := m + 85) (show b + 9 ≤ m + 85 ∨ m + 85 + 12 ≤ b by omega) (by rw [ypo_len]; omega) b3'' s2
  have c3 := zCls_num c2 f3 s3
  have q2 := zCls_0 c2
  have q3 := zCls_0 c3
  have e182 : zcall zP sv (d + 46) 182 [.ref (m + 85 + 1)] h3 = _ := d_182 (d := d + 45) s3.2.1
  have e144 : zcall zP sv (d + 47) 144 [.ref (m + 85)] h3 = some (.inl (some (.int (nI (yinc (ypo 0 s) 0 (yinc (ypo 0 t) 0 ([], B1))).1.length))), h3) := by
    simp only [zc_144, zs_144_0, zs_144_0n, zs_144_1, zs_144_4, zs_144_7, s3.1, zrc_11, zf_11_0, zp_11_0, zp_11_0n, zf_11_1, zp_11_1, zp_11_1n, zTre_rc s3.2.1, e182, zbk_v, zts_s, List.cons_append, List.nil_append]
  have r2 : ∀ X : zR, zrc (h2.1 (m + 85)) 11 X = X := fun X => by rw [s2.1]; exact zrc_k
  have r3 : ∀ X : zR, zrc (h3.1 (m + 85)) 11 X = X := fun X => by rw [s3.1]; exact zrc_k
  refine ⟨B0, B1, l1, l2, h3, ?_, c3, zfx_mono (zfx_tr (zfx_tr (zfr_fx f1 (by omega) (by omega)) (zfr_fx f2 (by omega) (by omega))) (zfr_fx f3 (by omega) (by omega))) (Nat.le_refl _) (Nat.le_refl _) (by omega) (by omega)⟩
  simp (disch := exact znw_u) only [zc_44, zs_44_0, zs_44_0n, zs_44_1, zs_44_2, zs_44_5, zs_44_5n, zs_44_6, zs_44_6n, zs_44_7, zs_44_8, zs_44_11, zs_44_11n, zs_44_13, zs_44_13n, zs_44_14, zs_44_14n, zs_44_16, zs_44_19, zs_44_21, zs_44_21n, zs_44_22, zs_44_22n, zs_44_23, zs_44_26, zs_44_28, zs_44_28n, zs_44_29, zs_44_32, zs_44_32n, zs_44_34, zs_44_37, zs_44_39, zs_44_41, zs_44_42, zs_44_42n, zs_44_43, zs_44_46, zs_44_49, zs_44_50, q2, q3, zECc, zrc_1, zf_1_0, zp_1_0, zp_1_0n, zf_1_1, zp_1_1, zf_1_2, zp_1_2, zp_1_2n, zf_1_3, zp_1_3, zp_1_3n, zf_1_4, zp_1_40, zp_1_41, zf_1_5, zp_1_5, zp_1_5n, zf_1_6, zp_1_6, zp_1_6n, zf_1_7, zp_1_7, zp_1_7n, zf_1_8, zp_1_8, zp_1_8n, zf_1_9, zp_1_9, zp_1_9n, zf_1_10, zp_1_10, zp_1_10n, zf_1_11, zp_1_11, zp_1_11n, zf_1_12, zp_1_12, zp_1_12n, zEC1 hc, zEC1 c1, e0, e0', e1, e2, r2, r3, e3, e144, zbk_v, zts_s, zts_n, List.cons_append, List.nil_append]
end ZRK
