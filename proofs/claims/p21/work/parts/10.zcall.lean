section ZC
variable {p : Program} {l : Launch} {e : Env} {R : Room} {s : State} {m : MethodId} {args : Array Value} {below : List Frame} {meth : Method} {c : Code} {H : Heap} {locs : List Loc} {cells slots : Nat} {Q : State → Prop}
variable {cl : List vw_C} {G : zG} {L : zL} {P : zProg} {zW : List Jvm.Cond} {ss : Nat → String × String × String} {sv : Nat → Value}
theorem zgood_in {ws : List Jvm.Cond} (h : ∀ w ∈ ws, w ∈ zW ∧ goodWord w = true) : GoodIn zW ws := fun w hw => ⟨(h w hw).1, good_of_word (h w hw).2⟩
theorem zgood_1 {w : Jvm.Cond} (h : w ∈ zW ∧ goodWord w = true) : GoodIn zW [w] := zgood_in fun w' hw => by rw [List.mem_singleton.mp hw]; exact h
theorem zcw_code {k : Nat} (h : L.2.2.2.1 k = []) : [zcw P L k] = Cond.code (L.1 k) (L.2.1 k) (P.2.1 k) (L.2.2.1 k) :: [] := by
  unfold zcw
  rw [if_pos h]
theorem zcw_with {k : Nat} (h : L.2.2.2.1 k ≠ []) : [zcw P L k] = Cond.codeWith (L.1 k) (L.2.1 k) (P.2.1 k) (L.2.2.1 k) (L.2.2.2.1 k) :: [] := by
  unfold zcw
  rw [if_neg h]
theorem zs_vrun {own : String} {cc : ByteArray} {pc k' j kd d : Nat} {ls : Array Slot} {vs rest : List Value} {h : zH} {r : zO × zH} (hx : p.tables.exec = Jvm.exec) (hb : c.code = cc) (hts : ∀ w ∈ zW, w.before args s = true) (hown : s.vm.findClass own = some m.cls) (hK : zK cl G s) (hml : c.maxLocals = ls.size)
    (hr : zrel cl G h H) (hlk : zlkC P L zW cl own cc pc k' j kd) (hj : vs.length = j) (hrest : (rest.map fun v => v.category).sum ≤ 8) (hrv : zrecv kd vs h = true) (hM : zMet P L cl G l d k' vs h r)
    (hRf : 10 + d + 1 ≤ R.frames) (hRl : 8 + (P.2.1 k' + 11) + (200 + 100 * d) ≤ R.locals) (hcells : cells + (r.2.2.1 - h.2.1) ≤ R.cells) (hslots : slots + (r.2.2.2 - h.2.2) ≤ R.slots) :
    vx_Run p l e R s m args below meth c H locs cells slots (r.2.2.1 - h.2.1) (r.2.2.2 - h.2.2) (F0 m pc ls (vs.reverse ++ rest)) rest (zQc cl G r vs.toArray) (zXC cl G L r) (fun q => G.2.2.heap.size ≤ q) := by
  obtain ⟨hk', hcw, hnm, hini, index, n, hpar, hmode⟩ := hlk
  have hS : CallFix p m c cc ls.size s args zW own := ⟨hx, hb, hml, hown, hts⟩
  have hW8 : 2 * (F0 m pc ls (vs.reverse ++ rest)).monitorRoom + (rest.map fun v => v.category).sum ≤ 8 := by show 2 * 0 + _ ≤ 8; omega
  have hRR : (zrm d (r.2.2.1 - h.2.1) (r.2.2.2 - h.2.2)).frames + 1 ≤ R.frames ∧ 8 + (P.2.1 k' + 11) + (zrm d (r.2.2.1 - h.2.1) (r.2.2.2 - h.2.2)).locals ≤ R.locals := ⟨hRf, hRl⟩
  have hg1 := zgood_1 (zW := zW) ⟨hcw, zcw_good (P := P) (L := L) (k := k')⟩
  have hpre : ∀ U : State, U.heap = H → s.WarmedH U.vm → zPc cl G vs h vs.toArray U := fun U hU hW => ⟨rfl, hK.moved hW, by rw [hU]; exact hr⟩
  have hd : (L.1 k').cls ≠ "java/lang/invoke/MethodHandle" ∧ (L.1 k').cls ≠ "java/lang/invoke/VarHandle" ∧ (parseMethodDescriptor (L.1 k').desc).map (fun d => d.parameters.length) = some n := ⟨hnm.1, hnm.2, hpar⟩
  rcases hmode with ⟨ci, T, N, rfl, hci, hc, hh, hjn, hdg, w1, w2, w3⟩ | ⟨hh, hjn, hdg, w1, w2⟩ | ⟨host, hh, hjn, hdg, w1, w2⟩ | ⟨hh, hjn, hdg, w1, w2⟩ | ⟨hkd, hh, hret, hjn, hdg, hyn, w1, w2⟩ | ⟨ci, C, T, N, rfl, hci, hc, hh, hjn, hdg, hyn, w1, w2, w3, w4⟩ | ⟨ci, C, T, N, rfl, hci, hc, hh, hjn, hdg, w1, w2, w3, w4⟩
  · -- virtual
    match vs, hj, hrv, hM, hpre with
    | [], hj, hrv, hM, hpre => simp at hj; omega
    | v :: As, hj, hrv, hM, hpre =>
      cases v with
      | ref b =>
        have hkb : (h.1 b).1 = ci + 1 := by
          unfold zrecv at hrv
          simpa using hrv
        obtain ⟨r9, hr9, hlen9, cellB, g1, g2, g3, -⟩ := (hr.at b).obj hkb hci
        have hfc := (hK.1 ci _ hc).2.1
        have hn : As.length = n := by simp at hj; omega
        have hT : GoodIn zW (wsV own index (L.1 k').cls (L.1 k') [zcw P L k']) := zgood_in (by
          intro w hw
          unfold wsV at hw
          simp only [List.cons_append, List.nil_append, List.mem_cons, List.not_mem_nil, or_false] at hw
          rcases hw with rfl | rfl | rfl | rfl | rfl
          · exact ⟨w1, rfl⟩
          · exact ⟨w2, rfl⟩
          · exact ⟨w3, rfl⟩
          · exact ⟨hini, rfl⟩
          · exact ⟨hcw, zcw_good⟩)
        exact vx_runV (As := As) (b := b) (C := (L.1 k').cls) hS hM (cwV n hts hT (zcw_code hh) rfl rfl ⟨rfl, hd⟩ hRR) ⟨zPc_blind, ⟨cellB, g1, by rw [g3]; rfl, by rw [g2]; exact hfc⟩, hpre⟩ rfl hn rfl (by simp) hW8 hdg ⟨hcells, hslots⟩
      | _ => simp [zrecv] at hrv
  · -- static
    have hT : GoodIn zW (va_wsS own index (L.1 k') [zcw P L k']) := zgood_in (by
      intro w hw
      unfold va_wsS at hw
      simp only [List.cons_append, List.nil_append, List.mem_cons, List.not_mem_nil, or_false] at hw
      rcases hw with rfl | rfl | rfl | rfl
      · exact ⟨w1, rfl⟩
      · exact ⟨w2, rfl⟩
      · exact ⟨hini, rfl⟩
      · exact ⟨hcw, zcw_good⟩)
    exact vx_runS (As := vs) hS hM ⟨callB_of n hts hg1 (zcw_code hh) rfl rfl (hts _ hini) (hts _ w1) hd hRR, hts _ w2⟩ ⟨zPc_blind, hpre⟩ rfl (by omega) rfl rfl hW8 hdg ⟨hcells, hslots⟩
  · -- static of a nest mate
    exact vx_runSN (As := vs) hS hM ⟨va_cnB n hts hg1 (zcw_code hh) rfl rfl (va_Nw.of rfl (hts _ w1)) (hts _ hini) hd hRR, hts _ w2, trivial⟩ ⟨zPc_blind, hpre⟩ rfl (by omega) rfl rfl hW8 hdg ⟨hcells, hslots⟩
  · -- static with handlers
    have hT : GoodIn zW (va_wsS own index (L.1 k') [zcw P L k']) := zgood_in (by
      intro w hw
      unfold va_wsS at hw
      simp only [List.cons_append, List.nil_append, List.mem_cons, List.not_mem_nil, or_false] at hw
      rcases hw with rfl | rfl | rfl | rfl
      · exact ⟨w1, rfl⟩
      · exact ⟨w2, rfl⟩
      · exact ⟨hini, rfl⟩
      · exact ⟨hcw, zcw_good⟩)
    exact vx_runSX (As := vs) hS hM (vx_cwSW n hts hT (zcw_with hh) rfl rfl hd hRR) ⟨zPc_blind, hpre⟩ rfl (by omega) rfl rfl hW8 hdg ⟨hcells, hslots⟩
  · -- a constructor
    match vs, hj, hrv, hM, hpre with
    | [], hj, hrv, hM, hpre => simp at hj; omega
    | v :: As, hj, hrv, hM, hpre =>
      cases v with
      | ref b =>
        have hn : As.length = n := by simp at hj; omega
        have hcd := zcw_code (P := P) hh
        rw [hret] at hcd
        exact vx_runI (As := As) (b := b) hS hM (cwI n hts hg1 hcd rfl rfl (hts _ hini) (hts _ w1) (hts _ w2) hyn hd hRR) ⟨zPc_blind, hpre⟩ rfl hn rfl (by simp) hW8 hdg ⟨hcells, hslots⟩
      | _ => simp [zrecv, hkd] at hrv
  · -- super.m
    match vs, hj, hrv, hM, hpre with
    | [], hj, hrv, hM, hpre => simp at hj; omega
    | v :: As, hj, hrv, hM, hpre =>
      cases v with
      | ref b =>
        have hkb : (h.1 b).1 = ci + 1 := by
          unfold zrecv at hrv
          simpa using hrv
        obtain ⟨r9, hr9, hlen9, cellB, g1, g2, g3, -⟩ := (hr.at b).obj hkb hci
        have hfc := (hK.1 ci _ hc).2
        have hn : As.length = n := by simp at hj; omega
        have hT : GoodIn zW (va_wsSU own index (L.1 k') [zcw P L k']) := zgood_in (by
          intro w hw
          unfold va_wsSU at hw
          simp only [List.cons_append, List.nil_append, List.mem_cons, List.not_mem_nil, or_false] at hw
          rcases hw with rfl | rfl | rfl | rfl | rfl | rfl
          · exact ⟨w1, rfl⟩
          · exact ⟨w2, rfl⟩
          · exact ⟨w3, rfl⟩
          · exact ⟨w4, rfl⟩
          · exact ⟨hini, rfl⟩
          · exact ⟨hcw, zcw_good⟩)
        exact vx_runSU (As := As) (b := b) (C := C) hfc hS hM (va_cwSU n hts hT (zcw_code hh) rfl rfl ⟨hyn, hpar⟩ hRR) ⟨zPc_blind, ⟨cellB, g1, by rw [g3]; rfl, by rw [g2]; exact hfc.1⟩, hpre⟩ rfl hn rfl (by simp) hW8 hdg ⟨hcells, hslots⟩
      | _ => simp [zrecv] at hrv
  · -- an inherited method
    match vs, hj, hrv, hM, hpre with
    | [], hj, hrv, hM, hpre => simp at hj; omega
    | v :: As, hj, hrv, hM, hpre =>
      cases v with
      | ref b =>
        have hkb : (h.1 b).1 = ci + 1 := by
          unfold zrecv at hrv
          simpa using hrv
        obtain ⟨r9, hr9, hlen9, cellB, g1, g2, g3, -⟩ := (hr.at b).obj hkb hci
        have hfc := (hK.1 ci _ hc).2.1
        have hn : As.length = n := by simp at hj; omega
        have hT : GoodIn zW (va_wsU own index C (L.1 k').cls (L.1 k') (L.1 k') [zcw P L k']) := zgood_in (by
          intro w hw
          unfold va_wsU at hw
          simp only [List.cons_append, List.nil_append, List.mem_cons, List.not_mem_nil, or_false] at hw
          rcases hw with rfl | rfl | rfl | rfl | rfl | rfl
          · exact ⟨w1, rfl⟩
          · exact ⟨w2, rfl⟩
          · exact ⟨w3, rfl⟩
          · exact ⟨w4, rfl⟩
          · exact ⟨hini, rfl⟩
          · exact ⟨hcw, zcw_good⟩)
        exact vx_runU (As := As) (b := b) (C := C) (owner := (L.1 k').cls) hS hM (va_cwU n hts hT (zcw_code hh) rfl rfl rfl ⟨hnm.1, hnm.2, hpar⟩ hRR) ⟨zPc_blind, ⟨cellB, g1, by rw [g3]; rfl, by rw [g2]; exact hfc⟩, hpre⟩ rfl hn rfl (by simp) hW8 hdg ⟨hcells, hslots⟩
      | _ => simp [zrecv] at hrv
end ZC
