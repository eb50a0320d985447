/-- a step keeps the number of locals, and heap and slots never shrink -/
theorem zgo_mono {pc pc' : Nat} {ls ls' l0 : List Slot} {st st' : List Value} {h h' h0 : zH} (e : zgo pc ls st h = some (.inl (pc', ls', st', h'))) (hl : ls.length = l0.length) (h1 : h0.2.1 ≤ h.2.1) (h2 : h0.2.2 ≤ h.2.2) : h0.2.1 ≤ h'.2.1 ∧ h0.2.2 ≤ h'.2.2 ∧ ls'.length = l0.length := by
  obtain ⟨rfl, rfl, rfl, rfl⟩ := zgo_inj e
  exact ⟨h1, h2, hl⟩
theorem zstep_mono {P : zProg} {sv : Nat → Value} {I : zI} {pc pc' : Nat} {ls ls' : List Slot} {st st' : List Value} {h h' : zH} (hs : zstep P sv I pc ls st h = some (.inl (pc', ls', st', h'))) : h.2.1 ≤ h'.2.1 ∧ h.2.2 ≤ h'.2.2 ∧ ls'.length = ls.length := by
  have hup : ∀ {a : Nat} {c : zC}, h.2.1 ≤ (zup h a c).2.1 ∧ h.2.2 ≤ (zup h a c).2.2 := ⟨Nat.le_refl _, Nat.le_refl _⟩
  have hnew : ∀ {c : zC} {n : Nat}, h.2.1 ≤ (znew h c n).2.1 ∧ h.2.2 ≤ (znew h c n).2.2 := ⟨Nat.le_succ _, Nat.le_add_right _ _⟩
  obtain ⟨op, i, j, x, n⟩ := I
  unfold zstep at hs
  split at hs
  case h_5 =>
    unfold zld at hs
    repeat' split at hs
    all_goals first | exact zgo_mono hs rfl (Nat.le_refl _) (Nat.le_refl _) | cases hs
  case h_6 =>
    unfold zstore at hs
    repeat' split at hs
    all_goals first | (rename_i l2 hl2; exact zgo_mono hs (by have := zw_size hl2; simpa using this) (Nat.le_refl _) (Nat.le_refl _)) | cases hs
  case h_7 =>
    unfold ziinc at hs
    repeat' split at hs
    all_goals first | (rename_i l2 hl2; exact zgo_mono hs (by have := zw_size hl2; simpa using this) (Nat.le_refl _) (Nat.le_refl _)) | cases hs
  case h_11 =>
    unfold zcmp at hs
    repeat' split at hs
    all_goals first | exact zgo_mono hs rfl (Nat.le_refl _) (Nat.le_refl _) | cases hs
  case h_12 =>
    unfold zstk at hs
    repeat' split at hs
    all_goals first | exact zgo_mono hs rfl (Nat.le_refl _) (Nat.le_refl _) | cases hs
  case h_13 =>
    unfold zif at hs
    repeat' split at hs
    all_goals first | exact zgo_mono hs rfl (Nat.le_refl _) (Nat.le_refl _) | cases hs
  case h_14 =>
    unfold zicmp at hs
    repeat' split at hs
    all_goals first | exact zgo_mono hs rfl (Nat.le_refl _) (Nat.le_refl _) | cases hs
  case h_15 =>
    unfold zifn at hs
    split at hs
    all_goals first | exact zgo_mono hs rfl (Nat.le_refl _) (Nat.le_refl _) | cases hs
  case h_17 =>
    unfold zgetf at hs
    repeat' split at hs
    all_goals first | exact zgo_mono hs rfl (Nat.le_refl _) (Nat.le_refl _) | cases hs
  case h_18 =>
    unfold zputf at hs
    repeat' split at hs
    all_goals first | exact zgo_mono hs rfl hup.1 hup.2 | cases hs
  case h_19 =>
    unfold zald at hs
    repeat' split at hs
    all_goals first | exact zgo_mono hs rfl (Nat.le_refl _) (Nat.le_refl _) | cases hs
  case h_20 =>
    unfold zast at hs
    repeat' split at hs
    all_goals first | exact zgo_mono hs rfl hup.1 hup.2 | cases hs
  case h_21 =>
    unfold zastq at hs
    repeat' split at hs
    all_goals first | exact zgo_mono hs rfl hup.1 hup.2 | cases hs
  case h_22 =>
    unfold zalen at hs
    repeat' split at hs
    all_goals first | exact zgo_mono hs rfl (Nat.le_refl _) (Nat.le_refl _) | cases hs
  case h_23 => exact zgo_mono hs rfl hnew.1 hnew.2
  case h_24 =>
    unfold znewa at hs
    repeat' split at hs
    all_goals first | exact zgo_mono hs rfl hnew.1 hnew.2 | cases hs
  case h_25 =>
    unfold zcalls at hs
    split at hs <;> cases hs
  case h_27 =>
    unfold zrets at hs
    repeat' split at hs
    all_goals cases hs
  case h_30 =>
    unfold zswt at hs
    split at hs
    all_goals first | exact zgo_mono hs rfl (Nat.le_refl _) (Nat.le_refl _) | cases hs
  case h_32 =>
    unfold znat zcopy at hs
    repeat' split at hs
    all_goals first | exact zgo_mono hs rfl hup.1 hup.2 | exact zgo_mono hs rfl (Nat.le_refl _) (Nat.le_refl _) | exact ⟨Nat.le_refl _, Nat.le_refl _, rfl⟩ | cases hs
  all_goals (repeat' split at hs)
  all_goals first | exact zgo_mono hs rfl (Nat.le_refl _) (Nat.le_refl _) | cases hs
theorem zgo_nr {pc : Nat} {ls : List Slot} {st : List Value} {h : zH} {y : (Nat × List Value × List Value) ⊕ (zO × zH)} (e : zgo pc ls st h = some (.inr y)) : False := by
  unfold zgo at e
  cases e
theorem zstep_inr {P : zProg} {sv : Nat → Value} {I : zI} {pc : Nat} {ls : List Slot} {st : List Value} {h : zH} {y : (Nat × List Value × List Value) ⊕ (zO × zH)} (hs : zstep P sv I pc ls st h = some (.inr y)) :
    (I.1 = 24 ∧ zcalls I.2.1 I.2.2.1 I.2.2.2.1.toNat st h = some (.inr y)) ∨ (I.1 = 26 ∧ zrets I.2.1 st h = some (.inr y)) ∨ (I.1 = 27 ∧ st = [] ∧ y = .inr (.inl none, h)) ∨ (I.1 = 28 ∧ st.length ≤ 4 ∧ y = .inr (.inr I.2.1, znew h (0, []) 6)) := by
  obtain ⟨op, i, j, x, n⟩ := I
  unfold zstep at hs
  split at hs
  case h_5 =>
    unfold zld at hs
    repeat' split at hs
    all_goals first | exact absurd (zgo_nr hs) id | cases hs
  case h_6 =>
    unfold zstore at hs
    repeat' split at hs
    all_goals first | exact absurd (zgo_nr hs) id | cases hs
  case h_7 =>
    unfold ziinc at hs
    repeat' split at hs
    all_goals first | exact absurd (zgo_nr hs) id | cases hs
  case h_11 =>
    unfold zcmp at hs
    repeat' split at hs
    all_goals first | exact absurd (zgo_nr hs) id | cases hs
  case h_12 =>
    unfold zstk at hs
    repeat' split at hs
    all_goals first | exact absurd (zgo_nr hs) id | cases hs
  case h_13 =>
    unfold zif at hs
    repeat' split at hs
    all_goals first | exact absurd (zgo_nr hs) id | cases hs
  case h_14 =>
    unfold zicmp at hs
    repeat' split at hs
    all_goals first | exact absurd (zgo_nr hs) id | cases hs
  case h_15 =>
    unfold zifn at hs
    split at hs
    all_goals first | exact absurd (zgo_nr hs) id | cases hs
  case h_17 =>
    unfold zgetf at hs
    repeat' split at hs
    all_goals first | exact absurd (zgo_nr hs) id | cases hs
  case h_18 =>
    unfold zputf at hs
    repeat' split at hs
    all_goals first | exact absurd (zgo_nr hs) id | cases hs
  case h_19 =>
    unfold zald at hs
    repeat' split at hs
    all_goals first | exact absurd (zgo_nr hs) id | cases hs
  case h_20 =>
    unfold zast at hs
    repeat' split at hs
    all_goals first | exact absurd (zgo_nr hs) id | cases hs
  case h_21 =>
    unfold zastq at hs
    repeat' split at hs
    all_goals first | exact absurd (zgo_nr hs) id | cases hs
  case h_22 =>
    unfold zalen at hs
    repeat' split at hs
    all_goals first | exact absurd (zgo_nr hs) id | cases hs
  case h_23 => exact absurd (zgo_nr hs) id
  case h_24 =>
    unfold znewa at hs
    repeat' split at hs
    all_goals first | exact absurd (zgo_nr hs) id | cases hs
  case h_25 => rename_i e9; exact Or.inl ⟨e9, hs⟩
  case h_27 => rename_i e9; exact Or.inr (Or.inl ⟨e9, hs⟩)
  case h_28 =>
    rename_i e9
    split at hs
    · cases hs; exact Or.inr (Or.inr (Or.inl ⟨e9, rfl, rfl⟩))
    · cases hs
  case h_29 =>
    rename_i e9
    split at hs
    · next hl => cases hs; exact Or.inr (Or.inr (Or.inr ⟨e9, hl, rfl⟩))
    · cases hs
  case h_30 =>
    unfold zswt at hs
    split at hs
    all_goals first | exact absurd (zgo_nr hs) id | cases hs
  case h_32 =>
    unfold znat zcopy at hs
    repeat' split at hs
    all_goals first | exact absurd (zgo_nr hs) id | cases hs
  all_goals (repeat' split at hs)
  all_goals first | exact absurd (zgo_nr hs) id | cases hs
theorem zcalls_spec {i j kd : Nat} {st : List Value} {h : zH} {y : (Nat × List Value × List Value) ⊕ (zO × zH)} (hs : zcalls i j kd st h = some (.inr y)) : j ≤ st.length ∧ zfew st j = true ∧ zrecv kd (st.take j).reverse h = true ∧ y = .inl (i, (st.take j).reverse, st.drop j) := by
  unfold zcalls at hs
  split at hs
  · next hc => cases hs; exact ⟨hc.1, hc.2.1, hc.2.2, rfl⟩
  · cases hs
theorem zrets_spec {t : Nat} {st : List Value} {h : zH} {y : (Nat × List Value × List Value) ⊕ (zO × zH)} (hs : zrets t st h = some (.inr y)) : ∃ v, st = [v] ∧ zty t v = true ∧ y = .inr (.inl (some v), h) := by
  unfold zrets at hs
  split at hs
  · next v =>
    split at hs
    · next ht => cases hs; exact ⟨v, rfl, ht, rfl⟩
    · cases hs
  · cases hs
theorem zcatch_spec {P : zProg} {k pc E : Nat} {ls : List Slot} {h : zH} {r : zO × zH} (hs : zcatch P k pc E ls h = some r) : r.2 = h := by
  unfold zcatch at hs
  split at hs
  · cases hs; rfl
  · split at hs
    · split at hs
      · cases hs; rfl
      · cases hs
    · cases hs
theorem zrun_mono {P : zProg} {sv : Nat → Value} {C : zCall} {k : Nat} (hC : ∀ k vs h r, C k vs h = some r → h.2.1 ≤ r.2.2.1 ∧ h.2.2 ≤ r.2.2.2) : ∀ (pc : Nat) (ls : List Slot) (st : List Value) (h : zH) (r : zO × zH), zrun P sv C k pc ls st h = some r → h.2.1 ≤ r.2.2.1 ∧ h.2.2 ≤ r.2.2.2 := by
  apply zrun.partial_correctness
  intro f ih pc ls st h r hs
  split at hs
  · next q hq =>
    obtain ⟨pc', ls', st', h'⟩ := q
    obtain ⟨m1, m2, -⟩ := zstep_mono hq
    obtain ⟨m3, m4⟩ := ih _ _ _ _ _ hs
    exact ⟨Nat.le_trans m1 m3, Nat.le_trans m2 m4⟩
  · next q hq =>
    split at hs
    · next v h' hc =>
      obtain ⟨m1, m2⟩ := hC _ _ _ _ hc
      obtain ⟨m3, m4⟩ := ih _ _ _ _ _ hs
      exact ⟨Nat.le_trans m1 m3, Nat.le_trans m2 m4⟩
    · next E h' hc =>
      obtain ⟨m1, m2⟩ := hC _ _ _ _ hc
      rw [zcatch_spec hs]
      exact ⟨m1, m2⟩
    · cases hs
  · next q hq =>
    cases hs
    rcases zstep_inr hq with ⟨-, h1⟩ | ⟨-, h1⟩ | ⟨-, -, h1⟩ | ⟨-, -, h1⟩
    · have := (zcalls_spec h1).2.2.2
      cases this
    · obtain ⟨v, -, -, h2⟩ := zrets_spec h1
      cases h2
      exact ⟨Nat.le_refl _, Nat.le_refl _⟩
    · cases h1
      exact ⟨Nat.le_refl _, Nat.le_refl _⟩
    · cases h1
      exact ⟨Nat.le_succ _, Nat.le_add_right _ _⟩
  · cases hs
theorem zcall_mono {P : zProg} {sv : Nat → Value} : ∀ (d k : Nat) (vs : List Value) (h : zH) (r : zO × zH), zcall P sv d k vs h = some r → h.2.1 ≤ r.2.2.1 ∧ h.2.2 ≤ r.2.2.2 := by
  intro d
  induction d with
  | zero => intro k vs h r hs; cases hs
  | succ d ih =>
    intro k vs h r hs
    unfold zcall at hs
    split at hs
    · exact zrun_mono ih _ _ _ _ _ hs
    · cases hs
