section ZALL
variable {p : Program} {l : Launch} {e : Env} {R : Room} {s : State} {m : MethodId} {args : Array Value} {below : List Frame} {meth : Method} {c : Code}
variable {cl : List vw_C} {G : zG} {L : zL} {P : zProg} {zW : List Jvm.Cond} {ss : Nat → String × String × String} {sv : Nat → Value}
set_option maxHeartbeats 4000000 in
theorem zs_run {k d : Nat} {h0 : zH} (hl : l.stackTraces = false) (F : zfacts L zW G ss sv) (hmk : zmok P L zW cl G ss k) (X : zcx p s m args meth c R P zW cl G ss sv (L.1 k).cls (L.1 k).name (L.2.1 k) (P.2.1 k)) (hr0 : zrel cl G h0 s.heap) (hret : meth.sig.returnType = L.2.2.1 k) (hlocks : meth.locks = false) (htab : c.exceptionTable.toList = tableOf (L.2.2.2.1 k))
    (hRf : 10 + (d + 1) ≤ R.frames) (hRl : 200 + 100 * (d + 1) ≤ R.locals) (hM : ∀ k', k' < L.2.2.2.2.2 → P.2.1 k' ≤ 80) (hC : ∀ k' vs h r, k' < L.2.2.2.2.2 → zcall P sv d k' vs h = some r → zMet P L cl G l d k' vs h r) :
    ∀ (pc : Nat) (ls : List Slot) (st : List Value) (h : zH) (r : zO × zH), zrun P sv (zcall P sv d) k pc ls st h = some r →
      (h.2.1 ≤ r.2.2.1 ∧ h.2.2 ≤ r.2.2.2) ∧ ∀ (H : Heap) (locs : List Loc) (cells slots : Nat), zrel cl G h H → (∀ z ∈ locs, G.2.2.heap.size ≤ z.base) → ls.length = P.2.1 k → h0.2.1 ≤ h.2.1 → cells + (r.2.2.1 - h.2.1) ≤ R.cells → slots + (r.2.2.2 - h.2.2) ≤ R.slots →
        W p l e R s m args below meth c H locs cells slots (vx_MQ below (zQc cl G r) (zXC cl G L r) args s R.cells R.slots (fun q => G.2.2.heap.size ≤ q)) (F0 m pc ls.toArray st) := by
  apply zrun.partial_correctness
  intro f ih pc ls st h r hs
  split at hs
  · -- a plain step
    next q hq =>
    obtain ⟨pc', ls', st', h'⟩ := q
    obtain ⟨m1, m2, m3⟩ := zstep_mono hq
    obtain ⟨⟨n1, n2⟩, ihW⟩ := ih _ _ _ _ _ hs
    replace n1 : h'.2.1 ≤ r.2.2.1 := n1
    replace n2 : h'.2.2 ≤ r.2.2.2 := n2
    refine ⟨⟨Nat.le_trans m1 n1, Nat.le_trans m2 n2⟩, fun H locs cells slots hr hL hnl hm0 hcells hslots => ?_⟩
    have hop : (P.1 k pc).1 ≤ 31 := by
      rcases Nat.lt_or_ge 31 (P.1 k pc).1 with h9 | h9
      · rw [zstep_op h9] at hq; cases hq
      · exact h9
    have hlk := zlk_go (hmk.2.2.2.2 pc hop) hq
    rw [← hnl] at X
    refine zs_go X hr hL hlk hq (by omega) (by omega) (fun H1 locs1 hr1 hL1 => ?_)
    exact ihW H1 locs1 _ _ hr1 hL1 (m3.trans hnl) (by show h0.2.1 ≤ h'.2.1; omega) (by show cells + (h'.2.1 - h.2.1) + (r.2.2.1 - h'.2.1) ≤ _; omega) (by show slots + (h'.2.2 - h.2.2) + (r.2.2.2 - h'.2.2) ≤ _; omega)
  · -- a call
    next q hq =>
    rcases zstep_inr hq with ⟨e9, h1⟩ | ⟨-, h1⟩ | ⟨-, -, h1⟩ | ⟨-, -, h1⟩
    · obtain ⟨hj, hj4, hrv, hy⟩ := zcalls_spec h1
      have hlk := hmk.2.2.2.2 pc (by omega)
      have hI : P.1 k pc = (24, (P.1 k pc).2.1, (P.1 k pc).2.2.1, (P.1 k pc).2.2.2.1, (P.1 k pc).2.2.2.2) := by rw [← e9]
      generalize (P.1 k pc).2.1 = k' at *
      generalize (P.1 k pc).2.2.1 = j at *
      generalize (P.1 k pc).2.2.2.1 = x at *
      generalize (P.1 k pc).2.2.2.2 = n at *
      unfold zlk at hlk
      rw [hI] at hlk
      replace hlk : zlkC P L zW cl (L.1 k).cls (L.2.1 k) pc k' j x.toNat := hlk
      cases hy
      dsimp only at hs
      have hvl : (st.take j).reverse.length = j := by simp [hj]
      have hrl : ((st.drop j).map fun v => v.category).sum ≤ 8 := by
        unfold zfew at hj4
        rw [Bool.or_eq_true] at hj4
        rcases hj4 with h9 | h9
        · have h8 := Nat.le_of_ble_eq_true h9
          have h7 := zcat_sum (st := st.drop j)
          rw [List.length_drop] at h7
          omega
        · exact Nat.le_of_ble_eq_true h9
      have hst : st = (st.take j).reverse.reverse ++ st.drop j := by simp
      generalize hvs : (st.take j).reverse = vs at *
      generalize hrest : st.drop j = rest at *
      -- what the callee answers
      cases hcall : zcall P sv d k' vs h with
      | none => rw [hcall] at hs; cases hs
      | some rc =>
        rw [hcall] at hs
        have hmono := zcall_mono d k' vs h rc hcall
        have hMc := hC k' vs h rc hlk.1 hcall
        obtain ⟨oc, hc'⟩ := rc
        have hmono1 : h.2.1 ≤ hc'.2.1 := hmono.1
        have hmono2 : h.2.2 ≤ hc'.2.2 := hmono.2
        have hm80 := hM k' hlk.1
        have key : ∀ (H : Heap) (locs : List Loc) (cells slots : Nat), zrel cl G h H → (∀ z ∈ locs, G.2.2.heap.size ≤ z.base) → ls.length = P.2.1 k → cells + (hc'.2.1 - h.2.1) ≤ R.cells → slots + (hc'.2.2 - h.2.2) ≤ R.slots →
            vx_Run p l e R s m args below meth c H locs cells slots (hc'.2.1 - h.2.1) (hc'.2.2 - h.2.2) (F0 m pc ls.toArray (vs.reverse ++ rest)) rest (zQc cl G (oc, hc') vs.toArray) (zXC cl G L (oc, hc')) (fun q => G.2.2.heap.size ≤ q) :=
          fun H locs cells slots hr hL hnl hcells hslots => zs_vrun X.1 X.2.1 X.2.2.1 X.2.2.2.1 X.2.2.2.2.2.1 (by rw [X.2.2.2.2.2.2.2.2.2]; simpa using hnl.symm) hr hlk hvl hrl hrv hMc (by omega) (by omega) hcells hslots
        cases oc with
        | inl v =>
          replace hs : f (pc + 3) ls (v.toList ++ rest) hc' = some r := hs
          obtain ⟨⟨n1, n2⟩, ihW⟩ := ih _ _ _ _ _ hs
          refine ⟨⟨Nat.le_trans hmono1 n1, Nat.le_trans hmono2 n2⟩, fun H locs cells slots hr hL hnl hm0 hcells hslots => ?_⟩
          rw [hst]
          refine zw_call hL (key H locs cells slots hr hL hnl (by omega) (by omega)) (fun v' hv' H1 locs1 hr1 hL1 => ?_) (fun n' hn' => by cases hn')
          cases hv'
          exact ihW H1 locs1 _ _ hr1 hL1 hnl (by omega) (by omega) (by omega)
        | inr E =>
          replace hs : zcatch P k pc E ls hc' = some r := hs
          have hre := zcatch_spec hs
          refine ⟨⟨by rw [hre]; exact hmono1, by rw [hre]; exact hmono2⟩, fun H locs cells slots hr hL hnl hm0 hcells hslots => ?_⟩
          rw [hre] at hcells hslots
          rw [hst]
          refine zw_call hL (key H locs cells slots hr hL hnl hcells hslots) (fun v' hv' => by cases hv') (fun n' hn' H1 locs1 q9 ce hr1 hL1 hce hcv hcl => ?_)
          cases hn'
          exact zs_catch X hret hlocks htab hmk.2.2.1 hmk.2.2.2.1 hr1 hL1 hs hce hcv hcl hcells hslots
    · obtain ⟨v, -, -, h2⟩ := zrets_spec h1
      cases h2
    · cases h1
    · cases h1
  · -- an end
    next q hq =>
    cases hs
    rcases zstep_inr hq with ⟨-, h1⟩ | ⟨e9, h1⟩ | ⟨e9, rfl, h1⟩ | ⟨e9, hst, h1⟩
    · have := (zcalls_spec h1).2.2.2
      cases this
    · obtain ⟨v, rfl, hv, h2⟩ := zrets_spec h1
      cases h2
      have hlk := hmk.2.2.2.2 pc (by omega)
      have hI : P.1 k pc = (26, (P.1 k pc).2.1, (P.1 k pc).2.2.1, (P.1 k pc).2.2.2.1, (P.1 k pc).2.2.2.2) := by rw [← e9]
      generalize (P.1 k pc).2.1 = t at *
      unfold zlk at hlk
      rw [hI] at hlk
      replace hlk : zlkR L (L.2.1 k) pc k t := hlk
      exact ⟨⟨Nat.le_refl _, Nat.le_refl _⟩, fun H locs cells slots hr hL hnl hm0 hcells hslots => zs_ret X hret hlocks hr hL hlk hv (by omega) (by omega)⟩
    · cases h1
      have hlk := hmk.2.2.2.2 pc (by omega)
      have hI : P.1 k pc = (27, (P.1 k pc).2.1, (P.1 k pc).2.2.1, (P.1 k pc).2.2.2.1, (P.1 k pc).2.2.2.2) := by rw [← e9]
      unfold zlk at hlk
      rw [hI] at hlk
      replace hlk : decode (L.2.1 k) pc = .ok (.return_, 1) ∧ L.2.2.1 k = none := hlk
      exact ⟨⟨Nat.le_refl _, Nat.le_refl _⟩, fun H locs cells slots hr hL hnl hm0 hcells hslots => W.widen (by omega) (by omega) (vx_ret (W.vret X.1 X.2.1 (hret.trans hlk.2) (fun t ht hW => ⟨_, rfl, rfl, by rw [ht]; exact hr⟩) hL hlk.1))⟩
    · cases h1
      have hlk := hmk.2.2.2.2 pc (by omega)
      have hI : P.1 k pc = (28, (P.1 k pc).2.1, (P.1 k pc).2.2.1, (P.1 k pc).2.2.2.1, (P.1 k pc).2.2.2.2) := by rw [← e9]
      generalize (P.1 k pc).2.1 = E at *
      unfold zlk at hlk
      rw [hI] at hlk
      replace hlk : zlkX L zW G (L.1 k).cls (L.2.1 k) pc E ∧ L.2.2.2.1 k = [] := hlk
      refine ⟨⟨Nat.le_succ _, Nat.le_add_right _ _⟩, fun H locs cells slots hr hL hnl hm0 hcells hslots => ?_⟩
      have e1 : (znew h (0, []) 6).2.1 - h.2.1 = 1 := by simp [znew]
      have e2 : (znew h (0, []) 6).2.2 - h.2.2 = 6 := by simp [znew]
      exact zs_throw hl F X hnl hlocks htab hlk.2 hlk.1 hr0 hm0 hr hL hst (by omega) (by omega) (by rw [← e1]; exact hcells) (by rw [← e2]; exact hslots)
  · cases hs
theorem zs_met (hl : l.stackTraces = false) (F : zfacts L zW G ss sv) (hMM : ∀ k, k < L.2.2.2.2.2 → zmok P L zW cl G ss k) : ∀ (d k : Nat) (vs : List Value) (h : zH) (r : zO × zH), k < L.2.2.2.2.2 → zcall P sv d k vs h = some r → zMet P L cl G l d k vs h r := by
  intro d
  induction d with
  | zero => intro k vs h r _ hs; cases hs
  | succ d ih =>
    intro k vs h r hk hs
    unfold zcall at hs
    split at hs
    · next hlen =>
      have hmk := hMM k hk
      have body : ∀ (p : Program) (e : Env) (s : State) (m : MethodId) (args : Array Value) (below : List Frame) (meth : Method) (c : Code), p.tables.exec = Jvm.exec → c.code = L.2.1 k → s.vm.findClass (L.1 k).cls = some m.cls → meth.name = (L.1 k).name → meth.sig.returnType = L.2.2.1 k → meth.locks = false → c.maxLocals = P.2.1 k → c.exceptionTable.toList = tableOf (L.2.2.2.1 k) → zPc cl G vs h args s →
          W p l e (zrm (d + 1) (r.2.2.1 - h.2.1) (r.2.2.2 - h.2.2)) s m args below meth c s.heap [] 0 0 (vx_MQ below (zQc cl G r) (zXC cl G L r) args s (r.2.2.1 - h.2.1) (r.2.2.2 - h.2.2) (fun q => G.2.2.heap.size ≤ q)) (entryFrame m args (P.2.1 k)) := by
        intro p e s m args below meth c hx hb hown hnm hret hlocks hml htab hPc
        obtain ⟨rfl, hK, hr⟩ := hPc
        rw [lg_entry_eq]
        have hnl : (zent vs (P.2.1 k)).length = P.2.1 k := by simp [zent]; omega
        have hts : ∀ w ∈ zW, w.before vs.toArray s = true := fun w hw => by
          obtain ⟨⟨A, hA⟩, hg⟩ := F.1 w hw
          exact zgw_at hK.2.2 hg hA
        have X : zcx p s m vs.toArray meth c (zrm (d + 1) (r.2.2.1 - h.2.1) (r.2.2.2 - h.2.2)) P zW cl G ss sv (L.1 k).cls (L.1 k).name (L.2.1 k) (P.2.1 k) :=
          ⟨hx, hb, hts, hown, hnm, hK, F.2.1, by show 1 ≤ 10 + (d + 1); omega, by show 100 ≤ 200 + 100 * (d + 1); omega, hml⟩
        exact (zs_run hl F hmk X hr hret hlocks htab (Nat.le_refl _) (Nat.le_refl _) (fun k' hk' => (hMM k' hk').2.1) (fun k' vs h r hk' hs' => ih k' vs h r hk' hs') 0 _ [] h r hs).2 s.heap [] 0 0 hr (fun z hz => by cases hz) hnl (Nat.le_refl _) (by show 0 + _ ≤ _; exact Nat.le_of_eq (Nat.zero_add _)) (by show 0 + _ ≤ _; exact Nat.le_of_eq (Nat.zero_add _))
      unfold zMet
      by_cases ht : L.2.2.2.1 k = []
      · refine vx_ofW (cc := L.2.1 k) (maxL := P.2.1 k) (ret := L.2.2.1 k) (ws' := []) hmk.1 (zcw_code ht) ?_
        intro p e s m args below meth c s₁ B hml hte hPc
        refine body p e s m args below meth c B.exec B.bytes (findClass_of_methodNamed B.named) (name_of_methodNamed B.named B.method).1 B.returns B.notSynchronized hml ?_ hPc
        rw [ht]
        cases h9 : c.exceptionTable.toList with
        | nil => rfl
        | cons a b => exact absurd (hte a (by rw [h9]; exact List.mem_cons_self)) id
      · refine vx_ofWH (cc := L.2.1 k) (maxL := P.2.1 k) (ret := L.2.2.1 k) (hh := L.2.2.2.1 k) (ws' := []) hmk.1 (zcw_with ht) ?_
        intro p e s m args below meth c s₁ B hml hPc
        refine body p e s m args below meth c B.exec B.bytes (findClass_of_methodNamed B.named) (name_of_methodNamed B.named B.method).1 B.returns B.notSynchronized hml ?_ hPc
        have hw := atoms_spec (ws := [zcw P L k]) B.pre (zcw P L k) List.mem_cons_self
        unfold zcw at hw
        rw [if_neg ht] at hw
        exact vx_table (x := L.1 k) B hw
    · cases hs
end ZALL
