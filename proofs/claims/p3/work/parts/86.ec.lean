def yas : Option yT → Nat
  | none => 0
  | some t => ysz t
theorem ypa_sz {cs : List Int32} : ∀ (f m : Nat) (a : Option yT) (op pos : Nat), pos ≤ (ypa cs f m a op pos).2 ∧ ∀ u, (ypa cs f m a op pos).1 = some u → ysz u + pos ≤ (ypa cs f m a op pos).2 + yas a
  | 0, m, a, op, pos => ⟨Nat.le_refl _, fun u h => by cases h⟩
  | f + 1, m, a, op, pos => by
    have ih := ypa_sz (cs := cs) f
    by_cases h0 : m = 0
    · subst h0
      rw [ypa_0]
      have i1 := ih 2 none op pos
      have i2 := ih 1 (ypa cs f 2 none op pos).1 op (ypa cs f 2 none op pos).2
      refine ⟨by omega, fun u hu => ?_⟩
      have := i2.2 u hu
      cases hr : (ypa cs f 2 none op pos).1 with
      | none =>
        rw [hr] at this i2
        have : yas none = 0 := rfl
        omega
      | some v =>
        rw [hr] at this
        have h3 := i1.2 v hr
        have : yas (some v) = ysz v := rfl
        have : yas none = 0 := rfl
        omega
    · by_cases h1 : m = 1
      · subst h1
        cases a with
        | none => rw [ypa_1n]; exact ⟨Nat.le_refl _, fun u h => by cases h⟩
        | some t =>
          rw [ypa_1s]
          split
          · have i1 := ih 2 none op (pos + 1)
            have i2 := ih 1 ((ypa cs f 2 none op (pos + 1)).1.map (fun u => ymk (ycat cs pos) 0 t u)) op (ypa cs f 2 none op (pos + 1)).2
            refine ⟨by omega, fun u hu => ?_⟩
            have := i2.2 u hu
            cases hr : (ypa cs f 2 none op (pos + 1)).1 with
            | none =>
              rw [hr] at this
              have e : yas (Option.map (fun u => ymk (ycat cs pos) 0 t u) none) = 0 := rfl
              have e2 : yas (some t) = ysz t := rfl
              omega
            | some v =>
              rw [hr] at this
              have h3 := i1.2 v hr
              have e : yas (Option.map (fun u => ymk (ycat cs pos) 0 t u) (some v)) = ysz t + ysz v + 1 := rfl
              have e2 : yas (some t) = ysz t := rfl
              have e3 : yas none = 0 := rfl
              omega
          · refine ⟨Nat.le_refl _, fun u hu => ?_⟩
            injection hu with hu
            subst hu
            show ysz t + pos ≤ pos + ysz t
            omega
      · by_cases h2 : m = 2
        · subst h2
          rw [ypa_2]
          have i1 := ih 4 none op pos
          have i2 := ih 3 (ypa cs f 4 none op pos).1 op (ypa cs f 4 none op pos).2
          refine ⟨by omega, fun u hu => ?_⟩
          have := i2.2 u hu
          cases hr : (ypa cs f 4 none op pos).1 with
          | none =>
            rw [hr] at this i2
            have : yas none = 0 := rfl
            omega
          | some v =>
            rw [hr] at this
            have h3 := i1.2 v hr
            have : yas (some v) = ysz v := rfl
            have : yas none = 0 := rfl
            omega
        · by_cases h3 : m = 3
          · subst h3
            cases a with
            | none => rw [ypa_3n]; exact ⟨Nat.le_refl _, fun u h => by cases h⟩
            | some t =>
              rw [ypa_3s]
              split
              · have i1 := ih 4 none op (pos + 1)
                have i2 := ih 3 ((ypa cs f 4 none op (pos + 1)).1.map (fun u => ymk (ycat cs pos) 0 t u)) op (ypa cs f 4 none op (pos + 1)).2
                refine ⟨by omega, fun u hu => ?_⟩
                have := i2.2 u hu
                cases hr : (ypa cs f 4 none op (pos + 1)).1 with
                | none =>
                  rw [hr] at this
                  have e : yas (Option.map (fun u => ymk (ycat cs pos) 0 t u) none) = 0 := rfl
                  have e2 : yas (some t) = ysz t := rfl
                  omega
                | some v =>
                  rw [hr] at this
                  have h3 := i1.2 v hr
                  have e : yas (Option.map (fun u => ymk (ycat cs pos) 0 t u) (some v)) = ysz t + ysz v + 1 := rfl
                  have e2 : yas (some t) = ysz t := rfl
                  have e3 : yas none = 0 := rfl
                  omega
              · refine ⟨Nat.le_refl _, fun u hu => ?_⟩
                injection hu with hu
                subst hu
                show ysz t + pos ≤ pos + ysz t
                omega
          · have e4 : ypa cs (f + 1) m a op pos = ((ypu cs f op (pos + yng cs pos 6)).1.map (ywr (yng cs pos 6)), (ypu cs f op (pos + yng cs pos 6)).2) := by
              conv => lhs; unfold ypa
              rw [if_neg h0, if_neg h1, if_neg h2, if_neg h3]
              rfl
            rw [e4]
            have iu : ∀ p, p ≤ (ypu cs f op p).2 ∧ ∀ u, (ypu cs f op p).1 = some u → ysz u + p ≤ (ypu cs f op p).2 := fun p => by
              unfold ypu
              split
              · have i1 := ih 0 none (op + 1) (p + 1)
                split
                · refine ⟨by show p ≤ (ypa cs f 0 none (op + 1) (p + 1)).2 + 1; omega, fun u hu => ?_⟩
                  have := i1.2 u hu
                  have e3 : yas none = 0 := rfl
                  show ysz u + p ≤ (ypa cs f 0 none (op + 1) (p + 1)).2 + 1
                  omega
                · exact ⟨by show p ≤ (ypa cs f 0 none (op + 1) (p + 1)).2; omega, fun u hu => by cases hu⟩
              · split
                · refine ⟨Nat.le_succ _, fun u hu => ?_⟩
                  injection hu with hu
                  subst hu
                  show 0 + 0 + 1 + p ≤ p + 1
                  omega
                · split
                  · unfold ynum2
                    split
                    · refine ⟨by show p ≤ p + 2; omega, fun u hu => ?_⟩
                      injection hu with hu
                      subst hu
                      show 1 + p ≤ p + 2
                      omega
                    · refine ⟨by show p ≤ p + 1; omega, fun u hu => ?_⟩
                      injection hu with hu
                      subst hu
                      show 1 + p ≤ p + 1
                      omega
                  · exact ⟨Nat.le_refl _, fun u hu => by cases hu⟩
            have i1 := iu (pos + yng cs pos 6)
            have hwr : ∀ n t, ysz (ywr n t) = ysz t + n := fun n => by
              induction n with
              | zero => exact fun t => rfl
              | succ n ih2 =>
                intro t
                show ysz (ywr n (ymk (nI 110) 0 t .leaf)) = _
                rw [ih2]
                show ysz t + 0 + 1 + n = _
                omega
            refine ⟨by show pos ≤ (ypu cs f op (pos + yng cs pos 6)).2; omega, fun u hu => ?_⟩
            have hu' : (ypu cs f op (pos + yng cs pos 6)).1.map (ywr (yng cs pos 6)) = some u := hu
            cases hr : (ypu cs f op (pos + yng cs pos 6)).1 with
            | none => rw [hr] at hu'; cases hu'
            | some v =>
              rw [hr] at hu'
              injection hu' with hu'
              subst hu'
              have := i1.2 v hr
              rw [hwr]
              show ysz v + yng cs pos 6 + pos ≤ (ypu cs f op (pos + yng cs pos 6)).2 + yas a
              omega
theorem ypa_tw {cs : List Int32} : ∀ (f m : Nat) (a : Option yT) (op pos : Nat), (∀ t, a = some t → ytw t = true) → ∀ u, (ypa cs f m a op pos).1 = some u → ytw u = true
  | 0, m, a, op, pos => fun _ u h => by cases h
  | f + 1, m, a, op, pos => by
    have ih := ypa_tw (cs := cs) f
    have hn : ∀ t : yT, (none : Option yT) = some t → ytw t = true := fun t h => by cases h
    intro ha
    by_cases h0 : m = 0
    · subst h0
      rw [ypa_0]
      exact ih 1 _ _ _ (ih 2 none op pos hn)
    · by_cases h1 : m = 1
      · subst h1
        cases a with
        | none => rw [ypa_1n]; exact fun u h => by cases h
        | some t =>
          rw [ypa_1s]
          split
          · rename_i g
            refine ih 1 _ _ _ (fun v hv => ?_)
            cases hr : (ypa cs f 2 none op (pos + 1)).1 with
            | none => rw [hr] at hv; cases hv
            | some x =>
              rw [hr] at hv
              injection hv with hv
              subst hv
              exact ytw_o (by rcases g with g | g <;> rw [g] <;> decide +kernel) (ha t rfl) (ih 2 none op (pos + 1) hn x hr)
          · exact fun u hu => by
              injection hu with hu
              subst hu
              exact ha t rfl
      · by_cases h2 : m = 2
        · subst h2
          rw [ypa_2]
          exact ih 3 _ _ _ (ih 4 none op pos hn)
        · by_cases h3 : m = 3
          · subst h3
            cases a with
            | none => rw [ypa_3n]; exact fun u h => by cases h
            | some t =>
              rw [ypa_3s]
              split
              · rename_i g
                refine ih 3 _ _ _ (fun v hv => ?_)
                cases hr : (ypa cs f 4 none op (pos + 1)).1 with
                | none => rw [hr] at hv; cases hv
                | some x =>
                  rw [hr] at hv
                  injection hv with hv
                  subst hv
                  exact ytw_o (by rw [g]; decide +kernel) (ha t rfl) (ih 4 none op (pos + 1) hn x hr)
              · exact fun u hu => by
                  injection hu with hu
                  subst hu
                  exact ha t rfl
          · have e4 : ypa cs (f + 1) m a op pos = ((ypu cs f op (pos + yng cs pos 6)).1.map (ywr (yng cs pos 6)), (ypu cs f op (pos + yng cs pos 6)).2) := by
              conv => lhs; unfold ypa
              rw [if_neg h0, if_neg h1, if_neg h2, if_neg h3]
              rfl
            rw [e4]
            have iu : ∀ p u, (ypu cs f op p).1 = some u → ytw u = true := fun p u => by
              unfold ypu
              split
              · split
                · exact ih 0 none (op + 1) (p + 1) hn u
                · exact fun hu => by cases hu
              · split
                · rename_i g
                  intro hu
                  injection hu with hu
                  subst hu
                  exact ytw_v g
                · split
                  · unfold ynum2
                    split
                    · intro hu
                      injection hu with hu
                      subst hu
                      exact ytw_c
                    · intro hu
                      injection hu with hu
                      subst hu
                      exact ytw_c
                  · exact fun hu => by cases hu
            have hwr : ∀ n t, ytw t = true → ytw (ywr n t) = true := fun n => by
              induction n with
              | zero => exact fun t h => h
              | succ n ih2 => exact fun t h => ih2 _ (ytw_n h)
            intro u hu
            have hu' : (ypu cs f op (pos + yng cs pos 6)).1.map (ywr (yng cs pos 6)) = some u := hu
            cases hr : (ypu cs f op (pos + yng cs pos 6)).1 with
            | none => rw [hr] at hu'; cases hu'
            | some v =>
              rw [hr] at hu'
              injection hu' with hu'
              subst hu'
              exact hwr _ _ (iu _ v hr)
/-- the text as a formula, or none, and where reading stopped -/
def yadd (cs : List Int32) : Option yT × Nat := (if (ypa cs 4000 0 none 0 0).2 = cs.length then (ypa cs 4000 0 none 0 0).1 else none, (ypa cs 4000 0 none 0 0).2)
theorem yadd_ok {cs : List Int32} {t : yT} (h : (yadd cs).1 = some t) : ytw t = true ∧ ysz t ≤ cs.length ∧ (yadd cs).2 = cs.length := by
  have h' : (if (ypa cs 4000 0 none 0 0).2 = cs.length then (ypa cs 4000 0 none 0 0).1 else none) = some t := h
  split at h'
  · rename_i g
    have := (ypa_sz (cs := cs) 4000 0 none 0 0).2 t h'
    have e : yas none = 0 := rfl
    exact ⟨ypa_tw 4000 0 none 0 0 (fun t h => by cases h) t h', by omega, g⟩
  · cases h'
section ZEC
variable {sv : Nat → Value} {d : Nat} {h : zH}
theorem d_152 {p pos : Nat} {cs : List Int32} {ns : List yN} (hp : zPar h p cs pos ns) : ∃ h' ns' x, zcall zP sv (d + 42) 152 [.ref p] h = some (.inl (some (.int x)), h') ∧ zPar h' p cs (yadd cs).2 ns' ∧ ywf ns' ∧ ns'.length ≤ 60 ∧ (yadd cs).2 ≤ cs.length ∧ zfr p (p + 12) h h' ∧ yis1 ns' x (yadd cs).1 := by
  have h0 := hp.1
  have h60 := hp.2.1.2.2.1
  obtain ⟨h1, e1, w1, f1⟩ := d_190 (sv := sv) (d := d + 40) hp.2.2
  have p1 := zPar_tree hp f1 w1
  have p2 := zPar_pos (pos' := 0) p1
  have a0 := p1.1
  have f2 : zfr p (p + 12) h1 (zup h1 p (7, [.ref (p + 1), .ref (p + 3), .int (nI 0)])) := zfr_up (by omega) (by omega)
  obtain ⟨h3, e, x, e3, q1, q2, q3, q4, f3, q5⟩ := (d_par (sv := sv) (p := p) (cs := cs) 4000).1 0 0 _ [] (d + 41) (by decide) (by omega) (by omega) p2 ywf_nil (Nat.zero_le _) (Nat.zero_le _)
  rw [nI_0] at e3 p2 f2 f3
  have b0 := q1.1
  have e4 := d_138 (sv := sv) (d := d + 40) q1.2.1
  rw [List.nil_append] at q1 q3 q5
  have hz : zTre h3 (p + 3) 60 e := q1.2.2
  have hzl := (zTre_lt hz).2
  have ff := zfr_tr (zfr_tr (zfr_mono f1 (show p ≤ p + 3 by omega) (show p + 3 + 9 ≤ p + 12 by omega)) f2) f3
  by_cases hc : (ypa cs 4000 0 none 0 0).2 = cs.length
  · refine ⟨h3, e, x, ?_, q1, q3, hzl, q4, ff, ?_⟩
    · simp (disch := exact znw_u) only [zc_152, zs_152_0, zs_152_0n, zs_152_1, zs_152_4, zs_152_7, zs_152_7n, zs_152_8, zs_152_9, zs_152_12, zs_152_12n, zs_152_13, zs_152_14, zs_152_17, zs_152_18, zs_152_18n, zs_152_19, zs_152_22, zs_152_22n, zs_152_23, zs_152_26, zs_152_29, zs_152_32, zs_152_33, zs_152_36, zs_152_37, h0, a0, zrc_7, zf_7_0, zp_7_0, zp_7_0n, zf_7_1, zp_7_1, zp_7_1n, zf_7_2, zp_7_2, zTre_rc hp.2.2, e1, zPar_rc p2, e3, b0, zInp_rc q1.2.1, e4, hc, zbk_v, zts_s, zts_n, ↓reduceIte]
    · show yis1 e x (if (ypa cs 4000 0 none 0 0).2 = cs.length then (ypa cs 4000 0 none 0 0).1 else none)
      rw [if_pos hc]
      exact q5
  · have g1 : ¬ nI (ypa cs 4000 0 none 0 0).2 = nI cs.length := fun g => hc ((nI_eq (by omega) (by omega)).mp g)
    refine ⟨h3, e, -1, ?_, q1, q3, hzl, q4, ff, ?_⟩
    · simp (disch := exact znw_u) only [zc_152, zs_152_0, zs_152_0n, zs_152_1, zs_152_4, zs_152_7, zs_152_7n, zs_152_8, zs_152_9, zs_152_12, zs_152_12n, zs_152_13, zs_152_14, zs_152_17, zs_152_18, zs_152_18n, zs_152_19, zs_152_22, zs_152_22n, zs_152_23, zs_152_26, zs_152_29, zs_152_32, zs_152_33, zs_152_36, zs_152_37, h0, a0, zrc_7, zf_7_0, zp_7_0, zp_7_0n, zf_7_1, zp_7_1, zp_7_1n, zf_7_2, zp_7_2, zTre_rc hp.2.2, e1, zPar_rc p2, e3, b0, zInp_rc q1.2.1, e4, if_neg g1, zbk_v, zts_s, zts_n]
    · show yis1 e (-1) (if (ypa cs 4000 0 none 0 0).2 = cs.length then (ypa cs 4000 0 none 0 0).1 else none)
      rw [if_neg hc]
      rfl
end ZEC
