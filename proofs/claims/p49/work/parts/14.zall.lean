/-- a step that doesn't read or write locals -/
def zwith (ls : List Slot) : zS → zS
  | some (.inl q) => some (.inl (q.1, ls, q.2.2.1, q.2.2.2))
  | x => x
theorem zstep_with {P : zProg} {sv : Nat → Value} {I : zI} {pc : Nat} {ls l0 : List Slot} {st : List Value} {h : zH} (h4 : I.1 ≠ 4) (h5 : I.1 ≠ 5) (h6 : I.1 ≠ 6) : zstep P sv I pc ls st h = zwith ls (zstep P sv I pc l0 st h) := by
  obtain ⟨op, i, j, x, n⟩ := I
  unfold zstep
  split
  case h_5 h9 => exact absurd h9 h4
  case h_6 h9 => exact absurd h9 h5
  case h_7 h9 => exact absurd h9 h6
  case h_11 =>
    unfold zcmp
    repeat' split
    all_goals rfl
  case h_12 =>
    unfold zstk
    repeat' split
    all_goals rfl
  case h_13 =>
    unfold zif
    repeat' split
    all_goals rfl
  case h_14 =>
    unfold zicmp
    repeat' split
    all_goals rfl
  case h_15 =>
    unfold zifn
    repeat' split
    all_goals rfl
  case h_17 =>
    unfold zgetf
    repeat' split
    all_goals rfl
  case h_18 =>
    unfold zputf
    repeat' split
    all_goals rfl
  case h_19 =>
    unfold zald
    repeat' split
    all_goals rfl
  case h_20 =>
    unfold zast
    repeat' split
    all_goals rfl
  case h_21 =>
    unfold zastq
    repeat' split
    all_goals rfl
  case h_22 =>
    unfold zalen
    repeat' split
    all_goals rfl
  case h_24 =>
    unfold znewa
    repeat' split
    all_goals rfl
  case h_25 =>
    unfold zcalls
    repeat' split
    all_goals rfl
  case h_27 =>
    unfold zrets
    repeat' split
    all_goals rfl
  case h_30 =>
    unfold zswt
    repeat' split
    all_goals rfl
  case h_32 =>
    unfold znat zcopy
    repeat' split
    all_goals rfl
  case h_36 =>
    unfold zd2l
    repeat' split
    all_goals rfl
  case h_37 =>
    unfold zcln
    repeat' split
    all_goals rfl
  case h_38 =>
    unfold zcbt
    repeat' split
    all_goals rfl
  all_goals (repeat' split)
  all_goals rfl
theorem zstep_le {P : zProg} {sv : Nat → Value} {I : zI} {pc pc' : Nat} {ls ls1 ls2 : List Slot} {st st' : List Value} {h h' : zH} (hle : zle ls.toArray ls1.toArray) (hs : zstep P sv I pc ls st h = some (.inl (pc', ls2, st', h'))) : ∃ ls3, zstep P sv I pc ls1 st h = some (.inl (pc', ls3, st', h')) ∧ zle ls2.toArray ls3.toArray := by
  obtain ⟨hl1, hl2⟩ := zle_ls hle
  by_cases h4 : I.1 = 4
  · obtain ⟨op, i, j, x, n⟩ := I
    replace h4 : op = 4 := h4
    subst h4
    replace hs : zld j (ls[i]?) (fun v => zgo (pc + n) ls (v :: st) h) = some (.inl (pc', ls2, st', h')) := hs
    show ∃ ls3, zld j (ls1[i]?) (fun v => zgo (pc + n) ls1 (v :: st) h) = some (.inl (pc', ls3, st', h')) ∧ _
    unfold zld at hs ⊢
    split at hs
    · next v hv =>
      split at hs
      · next ht =>
        obtain ⟨rfl, rfl, rfl, rfl⟩ := zgo_inj hs
        obtain ⟨y, hy, hxy⟩ := hl2 _ _ hv
        rcases hxy with rfl | ⟨h9, -⟩
        · refine ⟨ls1, ?_, hle⟩
          simp only [hy, if_pos ht]
          rfl
        · cases h9
      · cases hs
    · cases hs
  · by_cases h5 : I.1 = 5
    · obtain ⟨op, i, j, x, n⟩ := I
      replace h5 : op = 5 := h5
      subst h5
      replace hs : zstore j i (pc + n) ls st h = some (.inl (pc', ls2, st', h')) := hs
      show ∃ ls3, zstore j i (pc + n) ls1 st h = some (.inl (pc', ls3, st', h')) ∧ _
      unfold zstore at hs ⊢
      split at hs
      · next v st0 =>
        split at hs
        · next ht =>
          split at hs
          · next l2 hl =>
            obtain ⟨rfl, rfl, rfl, rfl⟩ := zgo_inj hs
            obtain ⟨l3, h3, hle3⟩ := zle_store hl hle
            refine ⟨l3.toList, ?_, by simpa using hle3⟩
            simp only [if_pos ht, h3]
            rfl
          · cases hs
        · cases hs
      · cases hs
    · by_cases h6 : I.1 = 6
      · obtain ⟨op, i, j, x, n⟩ := I
        replace h6 : op = 6 := h6
        subst h6
        replace hs : ziinc i (pc + n) x ls st h = some (.inl (pc', ls2, st', h')) := hs
        show ∃ ls3, ziinc i (pc + n) x ls1 st h = some (.inl (pc', ls3, st', h')) ∧ _
        unfold ziinc at hs ⊢
        split at hs
        · next v hv =>
          split at hs
          · next l2 hl =>
            obtain ⟨rfl, rfl, rfl, rfl⟩ := zgo_inj hs
            obtain ⟨y, hy, hxy⟩ := hl2 _ _ hv
            obtain ⟨l3, h3, hle3⟩ := zle_store hl hle
            rcases hxy with rfl | ⟨h9, -⟩
            · refine ⟨l3.toList, ?_, by simpa using hle3⟩
              simp only [hy, h3]
              rfl
            · cases h9
          · cases hs
        · cases hs
      · have e1 := zstep_with (P := P) (sv := sv) (pc := pc) (ls := ls) (l0 := ls1) (st := st) (h := h) h4 h5 h6
        have e2 := zstep_with (P := P) (sv := sv) (pc := pc) (ls := ls1) (l0 := ls1) (st := st) (h := h) h4 h5 h6
        rw [e1] at hs
        cases hz : zstep P sv I pc ls1 st h with
        | none => rw [hz] at hs; cases hs
        | some y =>
          cases y with
          | inl q =>
            rw [hz] at hs e2
            have e3 : (some (.inl q) : zS) = some (.inl (q.1, ls1, q.2.2.1, q.2.2.2)) := e2
            have e4 : (some (.inl (q.1, ls, q.2.2.1, q.2.2.2)) : zS) = some (.inl (pc', ls2, st', h')) := hs
            cases e4
            exact ⟨ls1, e3, hle⟩
          | inr q => rw [hz] at hs; cases hs
section ZALL
variable {p : Program} {l : Launch} {e : Env} {R : Room} {s : State} {m : MethodId} {args : Array Value} {below : List Frame} {meth : Method} {c : Code}
variable {cl : List vw_C} {G : zG} {L : zL} {P : zProg} {zW : List Jvm.Cond} {ss : Nat → String × String × String} {sv : Nat → Value}
set_option maxHeartbeats 4000000 in
theorem zs_run {k d : Nat} {h0 : zH} (hl : l.stackTraces = false) (F : zfacts L zW G ss sv) (hmk : zmok P L zW cl G ss k) (X : zcx p s m args meth c R P zW cl G ss sv (L.1 k).cls (L.1 k).name (L.2.1 k) (P.2.1 k)) (hr0 : zrel cl G h0 s.heap) (hret : meth.sig.returnType = L.2.2.1 k) (hlocks : meth.locks = false) (htab : c.exceptionTable.toList = tableOf (L.2.2.2.1 k))
    (hRf : 10 + (d + 1) ≤ R.frames) (hRl : 200 + 100 * (d + 1) ≤ R.locals) (hM : ∀ k', k' < L.2.2.2.2.2 → P.2.1 k' ≤ 80) (hC : ∀ k' vs h r, k' < L.2.2.2.2.2 → zcall P sv d k' vs h = some r → zMet P L cl G l d k' vs h r) :
    ∀ (pc : Nat) (ls : List Slot) (st : List Value) (h : zH) (r : zO × zH), zrun P sv (zcall P sv d) k pc ls st h = some r →
      (h.2.1 ≤ r.2.2.1 ∧ h.2.2 ≤ r.2.2.2) ∧ ∀ (H : Heap) (locs : List Loc) (cells slots : Nat), zrel cl G h H → (∀ z ∈ locs, G.2.2.heap.size ≤ z.base) → ls.length = P.2.1 k → h0.2.1 ≤ h.2.1 → cells + (r.2.2.1 - h.2.1) ≤ R.cells → slots + (r.2.2.2 - h.2.2) ≤ R.slots → ∀ ls1 : List Slot, zle ls.toArray ls1.toArray →
        W p l e R s m args below meth c H locs cells slots (vx_MQ below (zQc cl G r) (zXC cl G L r) args s R.cells R.slots (fun q => G.2.2.heap.size ≤ q)) (F0 m pc ls1.toArray st) := by
  apply zrun.partial_correctness
  intro f ih pc ls st h r hs
  split at hs
  · -- a plain step
    next q hq =>
    obtain ⟨pc', ls', st', h'⟩ := q
    obtain ⟨m1, m2, m3⟩ := zstep_mono hq
    obtain ⟨⟨n1, n2⟩, ihW⟩ := ih _ _ _ _ _ hs
    replace n1 : h'.2.1 ≤ r.2.2.1 := n1
    replace n2 : h'.2.2 ≤ r.2.2.2 := n2
    refine ⟨⟨Nat.le_trans m1 n1, Nat.le_trans m2 n2⟩, fun H locs cells slots hr hL hnl hm0 hcells hslots ls1 hle => ?_⟩
    have hop : (P.1 k pc).1 ≤ 37 := by
      rcases Nat.lt_or_ge 37 (P.1 k pc).1 with h9 | h9
      · rw [zstep_op h9] at hq; cases hq
      · exact h9
    have hlk := zlk_go (hmk.2.2.2.2 pc hop) hq
    obtain ⟨ls3, hq3, hle3⟩ := zstep_le hle hq
    have hnl1 : ls1.length = P.2.1 k := (zle_ls hle).1.trans hnl
    rw [← hnl1] at X
    refine zs_go X hr hL hlk hq3 (by omega) (by omega) (fun H1 locs1 hr1 hL1 => ?_)
    exact ihW H1 locs1 _ _ hr1 hL1 (m3.trans hnl) (by show h0.2.1 ≤ h'.2.1; omega) (by show cells + (h'.2.1 - h.2.1) + (r.2.2.1 - h'.2.1) ≤ _; omega) (by show slots + (h'.2.2 - h.2.2) + (r.2.2.2 - h'.2.2) ≤ _; omega) ls3 hle3
  · -- a call
    next q hq =>
    rcases zstep_inr hq with ⟨e9, h1⟩ | ⟨-, h1⟩ | ⟨-, -, h1⟩ | ⟨-, -, h1⟩
    · obtain ⟨hj, hj4, hrv, hy⟩ := zcalls_spec h1
      have hlk := hmk.2.2.2.2 pc (by omega)
      have hI : P.1 k pc = (24, (P.1 k pc).2.1, (P.1 k pc).2.2.1, (P.1 k pc).2.2.2.1, (P.1 k pc).2.2.2.2) := by rw [← e9]
      generalize (P.1 k pc).2.1 = k' at *
      generalize (P.1 k pc).2.2.1 = j at *
      generalize (P.1 k pc).2.2.2.1 = x at *
      generalize (P.1 k pc).2.2.2.2 = n at *
      unfold zlk at hlk
      rw [hI] at hlk
      replace hlk : zlkC P L zW cl (L.1 k).cls (L.2.1 k) pc k' j x.toNat := hlk
      cases hy
      dsimp only at hs
      have hvl : (st.take j).reverse.length = j := by simp [hj]
      have hrl : ((st.drop j).map fun v => v.category).sum ≤ 8 := by
        unfold zfew at hj4
        rw [Bool.or_eq_true] at hj4
        rcases hj4 with h9 | h9
        · have h8 := Nat.le_of_ble_eq_true h9
          have h7 := zcat_sum (st := st.drop j)
          rw [List.length_drop] at h7
          omega
        · exact Nat.le_of_ble_eq_true h9
      have hst : st = (st.take j).reverse.reverse ++ st.drop j := by simp
      generalize hvs : (st.take j).reverse = vs at *
      generalize hrest : st.drop j = rest at *
      -- what the callee answers
      cases hcall : zcall P sv d k' vs h with
      | none => rw [hcall] at hs; cases hs
      | some rc =>
        rw [hcall] at hs
        have hmono := zcall_mono d k' vs h rc hcall
        have hMc := hC k' vs h rc hlk.1 hcall
        obtain ⟨oc, hc'⟩ := rc
        have hmono1 : h.2.1 ≤ hc'.2.1 := hmono.1
        have hmono2 : h.2.2 ≤ hc'.2.2 := hmono.2
        have hm80 := hM k' hlk.1
        have key : ∀ (H : Heap) (locs : List Loc) (cells slots : Nat), zrel cl G h H → (∀ z ∈ locs, G.2.2.heap.size ≤ z.base) → ls.length = P.2.1 k → cells + (hc'.2.1 - h.2.1) ≤ R.cells → slots + (hc'.2.2 - h.2.2) ≤ R.slots → ∀ ls1 : List Slot, zle ls.toArray ls1.toArray →
            vx_Run p l e R s m args below meth c H locs cells slots (hc'.2.1 - h.2.1) (hc'.2.2 - h.2.2) (F0 m pc ls1.toArray (vs.reverse ++ rest)) rest (zQc cl G (oc, hc') vs.toArray) (zXC cl G L (oc, hc')) (fun q => G.2.2.heap.size ≤ q) :=
          fun H locs cells slots hr hL hnl hcells hslots ls1 hle => zs_vrun X.1 X.2.1 X.2.2.1 X.2.2.2.1 X.2.2.2.2.2.1 (by rw [X.2.2.2.2.2.2.2.2.2]; simpa using ((zle_ls hle).1.trans hnl).symm) hr hlk hvl hrl hrv hMc (by omega) (by omega) hcells hslots
        cases oc with
        | inl v =>
          replace hs : f (pc + 3) ls (v.toList ++ rest) hc' = some r := hs
          obtain ⟨⟨n1, n2⟩, ihW⟩ := ih _ _ _ _ _ hs
          refine ⟨⟨Nat.le_trans hmono1 n1, Nat.le_trans hmono2 n2⟩, fun H locs cells slots hr hL hnl hm0 hcells hslots ls1 hle => ?_⟩
          rw [hst]
          refine zw_call hL (key H locs cells slots hr hL hnl (by omega) (by omega) ls1 hle) (fun v' hv' H1 locs1 hr1 hL1 => ?_) (fun n' hn' => by cases hn')
          cases hv'
          exact ihW H1 locs1 _ _ hr1 hL1 hnl (by omega) (by omega) (by omega) ls1 hle
        | inr E =>
          replace hs : (match zcat P k pc E ls with
            | some none => some (.inr E, hc')
            | some (some c) => f c.1 c.2 [] hc'
            | none => none) = some r := hs
          split at hs
          · next hz =>
            cases hs
            refine ⟨⟨hmono1, hmono2⟩, fun H locs cells slots hr hL hnl hm0 hcells hslots ls1 hle => ?_⟩
            rw [hst]
            refine zw_call hL (key H locs cells slots hr hL hnl hcells hslots ls1 hle) (fun v' hv' => by cases hv') (fun n' hn' H1 locs1 q9 ce hr1 hL1 hce hcv hcl => ?_)
            cases hn'
            exact zs_out hlocks htab hmk.2.2.1 hr1 hL1 hz hce hcv hcl hcells hslots
          · next c9 hz =>
            obtain ⟨⟨n1, n2⟩, ihW⟩ := ih _ _ _ _ _ hs
            obtain ⟨pc9, ls9⟩ := c9
            have hls9 : ls9 = ls := by
              unfold zcat at hz
              split at hz
              · cases hz
              · split at hz
                · split at hz
                  · cases hz; rfl
                  · cases hz
                · cases hz
            refine ⟨⟨Nat.le_trans hmono1 n1, Nat.le_trans hmono2 n2⟩, fun H locs cells slots hr hL hnl hm0 hcells hslots ls1 hle => ?_⟩
            rw [hst]
            refine zw_call hL (key H locs cells slots hr hL hnl (by omega) (by omega) ls1 hle) (fun v' hv' => by cases hv') (fun n' hn' H1 locs1 q9 ce hr1 hL1 hce hcv hcl => ?_)
            cases hn'
            refine zs_catch (h := h) X htab hmk.2.2.1 hle hz hce hcv hcl (fun ls2 hle2 => ?_)
            exact ihW H1 locs1 _ _ hr1 hL1 (by rw [hls9]; exact hnl) (by omega) (by omega) (by omega) ls2 hle2
          · cases hs
    · obtain ⟨v, -, -, h2⟩ := zrets_spec h1
      cases h2
    · cases h1
    · cases h1
  · -- an end
    next q hq =>
    cases hs
    rcases zstep_inr hq with ⟨-, h1⟩ | ⟨e9, h1⟩ | ⟨e9, rfl, h1⟩ | ⟨e9, hst, h1⟩
    · have := (zcalls_spec h1).2.2.2
      cases this
    · obtain ⟨v, rfl, hv, h2⟩ := zrets_spec h1
      cases h2
      have hlk := hmk.2.2.2.2 pc (by omega)
      have hI : P.1 k pc = (26, (P.1 k pc).2.1, (P.1 k pc).2.2.1, (P.1 k pc).2.2.2.1, (P.1 k pc).2.2.2.2) := by rw [← e9]
      generalize (P.1 k pc).2.1 = t at *
      unfold zlk at hlk
      rw [hI] at hlk
      replace hlk : zlkR L (L.2.1 k) pc k t := hlk
      exact ⟨⟨Nat.le_refl _, Nat.le_refl _⟩, fun H locs cells slots hr hL hnl hm0 hcells hslots ls1 hle => zs_ret X hret hlocks hr hL hlk hv (by omega) (by omega)⟩
    · cases h1
      have hlk := hmk.2.2.2.2 pc (by omega)
      have hI : P.1 k pc = (27, (P.1 k pc).2.1, (P.1 k pc).2.2.1, (P.1 k pc).2.2.2.1, (P.1 k pc).2.2.2.2) := by rw [← e9]
      unfold zlk at hlk
      rw [hI] at hlk
      replace hlk : decode (L.2.1 k) pc = .ok (.return_, 1) ∧ L.2.2.1 k = none := hlk
      exact ⟨⟨Nat.le_refl _, Nat.le_refl _⟩, fun H locs cells slots hr hL hnl hm0 hcells hslots ls1 hle => W.widen (by omega) (by omega) (vx_ret (W.vret X.1 X.2.1 (hret.trans hlk.2) (fun t ht hW => ⟨_, rfl, rfl, by rw [ht]; exact hr⟩) hL hlk.1))⟩
    · cases h1
      have hlk := hmk.2.2.2.2 pc (by omega)
      have hI : P.1 k pc = (28, (P.1 k pc).2.1, (P.1 k pc).2.2.1, (P.1 k pc).2.2.2.1, (P.1 k pc).2.2.2.2) := by rw [← e9]
      generalize (P.1 k pc).2.1 = E at *
      unfold zlk at hlk
      rw [hI] at hlk
      replace hlk : zlkX L zW G (L.1 k).cls (L.2.1 k) pc E ∧ L.2.2.2.1 k = [] := hlk
      refine ⟨⟨Nat.le_succ _, Nat.le_add_right _ _⟩, fun H locs cells slots hr hL hnl hm0 hcells hslots ls1 hle => ?_⟩
      have e1 : (znew h (0, []) 6).2.1 - h.2.1 = 1 := by simp [znew]
      have e2 : (znew h (0, []) 6).2.2 - h.2.2 = 6 := by simp [znew]
      exact zs_throw hl F X ((zle_ls hle).1.trans hnl) hlocks htab hlk.2 hlk.1 hr0 hm0 hr hL hst (by omega) (by omega) (by rw [← e1]; exact hcells) (by rw [← e2]; exact hslots)
  · cases hs
theorem zs_met (hl : l.stackTraces = false) (F : zfacts L zW G ss sv) (hMM : ∀ k, k < L.2.2.2.2.2 → zmok P L zW cl G ss k) : ∀ (d k : Nat) (vs : List Value) (h : zH) (r : zO × zH), k < L.2.2.2.2.2 → zcall P sv d k vs h = some r → zMet P L cl G l d k vs h r := by
  intro d
  induction d with
  | zero => intro k vs h r _ hs; cases hs
  | succ d ih =>
    intro k vs h r hk hs
    unfold zcall at hs
    split at hs
    · next hlen =>
      have hmk := hMM k hk
      have body : ∀ (p : Program) (e : Env) (s : State) (m : MethodId) (args : Array Value) (below : List Frame) (meth : Method) (c : Code), p.tables.exec = Jvm.exec → c.code = L.2.1 k → s.vm.findClass (L.1 k).cls = some m.cls → meth.name = (L.1 k).name → meth.sig.returnType = L.2.2.1 k → meth.locks = false → c.maxLocals = P.2.1 k → c.exceptionTable.toList = tableOf (L.2.2.2.1 k) → zPc cl G vs h args s →
          W p l e (zrm (d + 1) (r.2.2.1 - h.2.1) (r.2.2.2 - h.2.2)) s m args below meth c s.heap [] 0 0 (vx_MQ below (zQc cl G r) (zXC cl G L r) args s (r.2.2.1 - h.2.1) (r.2.2.2 - h.2.2) (fun q => G.2.2.heap.size ≤ q)) (entryFrame m args (P.2.1 k)) := by
        intro p e s m args below meth c hx hb hown hnm hret hlocks hml htab hPc
        obtain ⟨rfl, hK, hr⟩ := hPc
        rw [lg_entry_eq]
        have hnl : (zent vs (P.2.1 k)).length = P.2.1 k := by simp [zent]; omega
        have hts : ∀ w ∈ zW, w.before vs.toArray s = true := fun w hw => by
          obtain ⟨⟨A, hA⟩, hg⟩ := F.1 w hw
          exact zgw_at hK.2.2 hg hA
        have X : zcx p s m vs.toArray meth c (zrm (d + 1) (r.2.2.1 - h.2.1) (r.2.2.2 - h.2.2)) P zW cl G ss sv (L.1 k).cls (L.1 k).name (L.2.1 k) (P.2.1 k) :=
          ⟨hx, hb, hts, hown, hnm, hK, F.2.1, by show 1 ≤ 10 + (d + 1); omega, by show 100 ≤ 200 + 100 * (d + 1); omega, hml⟩
        exact (zs_run hl F hmk X hr hret hlocks htab (Nat.le_refl _) (Nat.le_refl _) (fun k' hk' => (hMM k' hk').2.1) (fun k' vs h r hk' hs' => ih k' vs h r hk' hs') 0 _ [] h r hs).2 s.heap [] 0 0 hr (fun z hz => by cases hz) hnl (Nat.le_refl _) (by show 0 + _ ≤ _; exact Nat.le_of_eq (Nat.zero_add _)) (by show 0 + _ ≤ _; exact Nat.le_of_eq (Nat.zero_add _)) _ zle_rfl
      unfold zMet
      by_cases ht : L.2.2.2.1 k = []
      · refine vx_ofW (cc := L.2.1 k) (maxL := P.2.1 k) (ret := L.2.2.1 k) (ws' := []) hmk.1 (zcw_code ht) ?_
        intro p e s m args below meth c s₁ B hml hte hPc
        refine body p e s m args below meth c B.exec B.bytes (findClass_of_methodNamed B.named) (name_of_methodNamed B.named B.method).1 B.returns B.notSynchronized hml ?_ hPc
        rw [ht]
        cases h9 : c.exceptionTable.toList with
        | nil => rfl
        | cons a b => exact absurd (hte a (by rw [h9]; exact List.mem_cons_self)) id
      · refine vx_ofWH (cc := L.2.1 k) (maxL := P.2.1 k) (ret := L.2.2.1 k) (hh := L.2.2.2.1 k) (ws' := []) hmk.1 (zcw_with ht) ?_
        intro p e s m args below meth c s₁ B hml hPc
        refine body p e s m args below meth c B.exec B.bytes (findClass_of_methodNamed B.named) (name_of_methodNamed B.named B.method).1 B.returns B.notSynchronized hml ?_ hPc
        have hw := atoms_spec (ws := [zcw P L k]) B.pre (zcw P L k) List.mem_cons_self
        unfold zcw at hw
        rw [if_neg ht] at hw
        exact vx_table (x := L.1 k) B hw
    · cases hs
end ZALL
