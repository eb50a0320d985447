/-! THE CLAIM OUT OF ONE WALK OF THE LAW'S BODY. Your part is whole_start (and what it stands on); all else here is the same for every law, but numbers. -/
def R_law : String := "ExpressionCompilerLaw"
def lw_P (b : Addr) (xs : List Int32) (args : Array Value) (s : State) : Prop := args = #[.ref b] ∧ s.IntsAt b xs ∧ xs.length ≤ 2048 ∧ (Jvm.Cond.and given_1 narrow_1).before args s = true
/-- what a walk over the start with the record d0 says of its end, said of the start itself -/
theorem lw_closed {s t : State} {o : Outcome} {d0 : Drawn} {L : List Loc} {k n : Nat} (hd0 : s.drawn.sameBut d0 lw_cs) (hv : ∃ v, o = .returned v) (hW : (s.setDrawn d0).WarmedH t.vm) (hs : (s.setDrawn d0).sameButNew ({ t with vm := s.vm } : State) L k n) : State.butDraws s t lw_cs (fun t1 => Framed s o t1 L k n) := by
  have h2 : t.drawn = d0 := congrArg State.drawn hs.1
  refine ⟨⟨hv, hW, State.sameButNew.setDrawn hs s.drawn⟩, ?_, by decide⟩
  rw [h2]
  exact hd0
def lw_Q (_ : Array Value) (s : State) (o : Outcome) (t : State) : Prop := o = .returned (some (.int 1)) ∧ State.butDraws s t lw_cs (fun t1 => Framed s o t1 [] 948316 6138517)
def lw_Z (below : List Frame) (a : Array Value) (s : State) : State → Prop := fun t => ∃ o, t.status = .running ∧ Ended t below o ∧ lw_Q a s o t
/-- the law's own end, with 1 on the stack, nothing written that was there before, its room as the claim has it; d0: the record of draws at this point (at the entry s.drawn: begin with 'refine W.base ?_' and 'have hd0 := Drawn.sameBut.refl s.drawn lw_cs') -/
theorem lw_ret {p : Program} {l : Launch} {e : Env} {s : State} {m : MethodId} {below : List Frame} {meth : Method} {c : Code} {b : Nat} {d0 : Drawn} (hd0 : s.drawn.sameBut d0 lw_cs) (hx : p.tables.exec = Jvm.exec) (hb : c.code = code) (hr : meth.sig.returnType = ret) (hlocks : meth.locks = false) {pc : Nat} {H : Heap} {ls : Array Slot} (hdg : decode code pc = .ok (.ireturn, 1)) : W p l e room_1 (s.setDrawn d0) m #[Value.ref b] below meth c H [] 948316 6138517 (lw_Z below #[Value.ref b] s) (F0 m pc ls [.int 1]) := by
  intro T hT X
  obtain ⟨fs, hret, hrun, hended, hW, hframe⟩ := X.leave (v := some (.int 1)) (hlocks := hlocks) (fun h => by rw [hr] at h; cases h)
  have hmeth' : T.vm.method? m = some meth := X.method'
  refine ⟨T.setFrames fs, ?_, .returned (some (.int 1)), hrun, hended, rfl, lw_closed hd0 ⟨_, rfl⟩ hW hframe⟩
  jvm_step X.here [X.here.top, hx, hb, hdg, hmeth', hr, ret, narrow_b1]
  (try refine ⟨rfl, ?_⟩); (try refine ⟨rfl, ?_⟩)
  first | (intro acts; rw [hret _ acts rfl rfl rfl]) | rw [hret _ _ rfl rfl rfl]
  exact Steps.refl _
/-- what holds at the law's entry: the machine, the code, the tables' words (any of lw_tbl by 'hts w (by decide +kernel)'), the script of L ints xs at the cell b, what the Statement gives of the start (any of its parts by flat_of_before) -/
def lw_At (p : Program) (s : State) (m : MethodId) (meth : Method) (c : Code) (b L : Nat) (xs : Nat → Int32) : Prop :=
  p.tables.exec = Jvm.exec ∧ c.code = code ∧ meth.sig.returnType = ret ∧ c.maxLocals = 9 ∧ s.vm.findClass R_law = some m.cls ∧ (∀ w ∈ lw_tbl, w.before #[Value.ref b] s = true) ∧ va_X b L xs s s.heap ∧ b < s.heap.size ∧ meth.locks = false ∧ (Jvm.Cond.and given_1 narrow_1).before #[Value.ref b] s = true ∧ meth.name = "law" ∧ c.exceptionTable.toList = []
theorem whole_start {p : Program} {e : Env} {s : State} {m : MethodId} {below : List Frame} {meth : Method} {c : Code} (l : Launch) (hflags : l.flags = flags0) {b L : Nat} {xs : Nat → Int32} (hL : L ≤ 2048) (C0 : lw_At p s m meth c b L xs) : W p l e room_1 s m #[Value.ref b] below meth c s.heap [] 0 0 (lw_Z below #[Value.ref b] s) (entryFrame m ([Value.ref b] : List Value).toArray 9) := by
  obtain ⟨hx, hb, hr, hml, hown, hts, hX, hbl, hlocks, hgv, hnm, htb⟩ := id C0
  have ht : ∀ w ∈ tables_1, w.before #[Value.ref b] s = true := fun w hw => hts w (List.mem_append_right _ hw)
  have hl : l.stackTraces = false := by
    unfold Launch.stackTraces
    rw [hflags]
    decide +kernel
  obtain ⟨sv, hs0, hs3, hd1, hd2, hsv⟩ := z_stat2 ht hgv
  obtain ⟨a1, k1, D1, v1, c1, i1, u1, l1, n1⟩ := zdig_1 hgv hd1
  obtain ⟨a2, k2, D2, v2, c2, i2, u2, l2, n2⟩ := zdig_2 hgv hd2
  have hab : ∀ (a : Nat) (k : Cell), s.heap[a]? = some k → s.isArrayOf k .byte → a ≠ b := by
    intro a k hc9 hi9 e9
    obtain ⟨scr, q1, q2, -⟩ := id hX
    subst e9
    cases Option.some.inj (hc9.symm.trans q1)
    obtain ⟨-, kk, g1, comp, g2⟩ := hi9
    obtain ⟨-, kk2, g3, comp2, g4⟩ := q2
    cases Option.some.inj (g1.symm.trans g3)
    cases g2.symm.trans g4
  obtain ⟨D, hD⟩ := z_known ht
  obtain ⟨cA, hcA⟩ := z_arrs ht
  obtain ⟨G, hG⟩ : ∃ G : zG, G = (D, cA, s) := ⟨_, rfl⟩
  have hG2 : G.2.2 = s := by rw [hG]
  have hzW : ∀ w ∈ zW, w.before #[Value.ref b] s = true := fun w h => hts w (List.mem_filter.mp h).1
  have F : zfacts zLL zW G zss sv := by
    rw [hG]
    exact ⟨fun w hw => ⟨⟨_, hzW w hw⟩, (List.mem_filter.mp hw).2⟩, hsv, z_un ht hgv, z_se ht hgv⟩
  have hMM : ∀ k, k < zLL.2.2.2.2.2 → zmok zP zLL zW zcl G zss k := zmok_all (by rw [hG2]; exact z_strs ht hgv) (by rw [hG2]; exact z_nocast hgv)
  have hK : zK zcl G s := by
    rw [hG]
    exact ⟨hD, hcA, State.WarmedH.refl s⟩
  obtain ⟨ys, hys⟩ : ∃ ys : List Int32, ys = (List.range L).map xs := ⟨_, rfl⟩
  have hyl : ys.length = L := by rw [hys]; simp
  have hr0 : zrel zcl G (zh1 s.heap.size b ys a1 D1 a2 D2) s.heap := by
    rw [hG]
    refine ⟨rfl, Nat.le_refl _, fun q _ => rfl, fun a => ?_, fun a h1 h2 => ?_⟩
    · show zat zcl (D, cA, s) a (if a = b then (28, ys.map Value.int) else if a = a1 then (27, D1.map Value.int) else if a = a2 then (27, D2.map Value.int) else (0, [])) s.heap
      split
      · next e9 =>
        subst e9
        obtain ⟨scr, q1, q2, q3, q4, q5⟩ := hX
        refine zat.mkro (by show 27 ≤ 28; omega) ⟨scr, q1, q2, q3, ?_⟩
        apply List.ext_getElem?
        intro i
        show scr.slots.toList[i]? = (ys.map Value.int)[i]?
        by_cases hi : i < L
        · rw [Array.getElem?_toList, q5 i hi, hys]
          simp [hi]
        · rw [List.getElem?_eq_none (by simp; omega), List.getElem?_eq_none (by simp; omega)]
      · split
        · next e9 =>
          subst e9
          exact zat.mkro (by show 27 ≤ 27; omega) ⟨k1, c1, i1, u1, l1⟩
        · split
          · next e9 =>
            subst e9
            exact zat.mkro (by show 27 ≤ 27; omega) ⟨k2, c2, i2, u2, l2⟩
          · exact zat.zero rfl
    · exfalso
      revert h1 h2
      show (if a = b then ((28, ys.map Value.int) : zC) else if a = a1 then (27, D1.map Value.int) else if a = a2 then (27, D2.map Value.int) else (0, [])).1 ≠ 0 → (if a = b then ((28, ys.map Value.int) : zC) else if a = a1 then (27, D1.map Value.int) else if a = a2 then (27, D2.map Value.int) else (0, [])).1 < 27 → False
      split
      · intro _ h2
        exact absurd h2 (by show ¬ 28 < 27; omega)
      · split
        · intro _ h2
          exact absurd h2 (by show ¬ 27 < 27; omega)
        · split
          · intro _ h2
            exact absurd h2 (by show ¬ 27 < 27; omega)
          · intro h1
            exact absurd rfl h1
  obtain ⟨d, h', hd, hz, hc, hsl⟩ := z_main sv s.heap.size b a1 a2 ys D1 D2 hs0 hs3 v1 v2 hbl (Array.getElem?_eq_some_iff.mp c1).1 (Array.getElem?_eq_some_iff.mp c2).1 (hab a1 k1 c1 i1) (hab a2 k2 c2 i2) n1 n2 (by omega)
  cases d with
  | zero => cases hz
  | succ d =>
    unfold zcall at hz
    split at hz
    · next hlen =>
      have hnl : (zent [.ref b] (zP.2.1 299)).length = zP.2.1 299 := by simp [zent]; omega
      have X : zcx p s m ([Value.ref b] : List Value).toArray meth c room_1 zP zW zcl G zss sv (zLL.1 299).cls (zLL.1 299).name (zLL.2.1 299) (zP.2.1 299) :=
        ⟨hx, hb, hzW, hown, hnm, hK, F.2.1, Nat.le_of_ble_eq_true rfl, Nat.le_of_ble_eq_true rfl, hml⟩
      have K := (zs_run (e := e) (below := below) hl F (hMM 299 (Nat.le_of_ble_eq_true rfl)) X hr0 hr hlocks htb (by show 10 + (d + 1) ≤ 2048; omega) (by show 200 + 100 * (d + 1) ≤ 94400; omega) (fun k' hk' => (hMM k' hk').2.1) (fun k' vs h r hk' hs' => zs_met hl F hMM d k' vs h r hk' hs') 0 _ [] _ _ hz).2 s.heap [] 0 0 hr0 (fun z hz => by cases hz) hnl (Nat.le_refl _) (by show 0 + (h'.2.1 - s.heap.size) ≤ 948316; omega) (by show 0 + (h'.2.2 - 0) ≤ 6138517; omega)
      rw [lg_entry_eq]
      intro T hT X9
      obtain ⟨t, a1, o, b1, b2, b3⟩ := K T hT X9
      refine ⟨t, a1, o, b1, b2, ?_⟩
      rcases b3 with ⟨⟨v, e1, e2, -⟩, Ls, hF, hfree⟩ | ⟨q, e1, E, ce, L9, ⟨n9, e9, -⟩, -⟩
      · cases e1
        refine ⟨e2, lw_closed (Drawn.sameBut.refl s.drawn lw_cs) hF.1 hF.2.1 (hF.2.2.weaken (fun y hy hlt => ?_) (Nat.le_refl _) (Nat.le_refl _))⟩
        have := hfree y hy
        rw [hG2] at this
        exact absurd hlt (Nat.not_lt.mpr this)
      · cases e9
    · cases hz
set_option maxHeartbeats 4000000 in
theorem lw_walk (l : Launch) (hflags : l.flags = flags0) (b : Addr) (xs : List Int32) : MetFree l x (headSpec (Jvm.Cond.code x code maxLocals ret :: tables_1) room_1) (lw_P b xs) (fun _ _ _ _ _ => True) lw_Q := by
  refine MetFree.of_bodyS (code := code) (maxLocals := maxLocals) (ret := ret) (by decide) ?_ ?_
  · intro args s m h hn
    obtain ⟨meth, c, h1, h2, h3, h4, h5, h6, -, -⟩ := Cond.code_spec hn (atoms_spec (ws := Jvm.Cond.code x code maxLocals ret :: tables_1) h _ List.mem_cons_self)
    exact ⟨meth, c, h1, h2, h3, h4, h5, h6⟩
  · intro p e s m args below meth c s₁ B hml0 hP _
    obtain ⟨rfl, hx, hbd, hgv⟩ := hP
    obtain ⟨scr, harrAt, hlist, hof, hsmall⟩ := hx
    obtain ⟨hcb, hkn, -, -⟩ := State.arrayAt?_spec harrAt
    have hown : s.vm.findClass R_law = some m.cls := findClass_of_methodNamed B.named
    have hts0 : ∀ c ∈ (Jvm.Cond.code x code maxLocals ret :: tables_1), c.before #[Value.ref b] s = true := atoms_spec (ws := Jvm.Cond.code x code maxLocals ret :: tables_1) B.pre
    have hts : ∀ w ∈ lw_tbl, w.before #[Value.ref b] s = true := lw_hts (fun w hw => hts0 w (List.mem_cons_of_mem _ hw))
    have hml : c.maxLocals = 9 := B.maxLocals_eq (hts0 _ List.mem_cons_self)
    have X₀ : Stand p l e room_1 s m #[Value.ref b] below meth c s₁ [] 0 0 := Stand.of_body B
    have hh0 : s₁.heap = s.heap := by rw [B.state]; rfl
    have htab : c.exceptionTable.toList = [] := by
      obtain ⟨meth9, c9, h1, h2, -, -, -, -, h7, -⟩ := Cond.code_spec B.named (hts0 _ List.mem_cons_self)
      cases Option.some.inj (h1.symm.trans B.method)
      cases Option.some.inj (h2.symm.trans X₀.code)
      rw [Array.isEmpty_iff.mp h7]
    have hsz : scr.slots.size = xs.length := by rw [← Array.length_toList, hlist, List.length_map]
    have hval : ∀ j : Nat, j < xs.length → scr.slots[j]? = some (.int (xs.getD j 0)) := fun j hj => by
      rw [← Array.getElem?_toList, hlist]
      simp [hj]
    have hbl : b < s.heap.size := (Array.getElem?_eq_some_iff.mp hcb).1
    have hX : va_X b xs.length (fun j => xs.getD j 0) s s.heap := ⟨scr, hcb, hof, hkn, hsz, hval⟩
    have K : W p l e room_1 s m #[Value.ref b] below meth c s₁.heap [] 0 0 (lw_Z below #[Value.ref b] s) (entryFrame m ([Value.ref b] : List Value).toArray 9) := by
      rw [hh0]
      exact whole_start l hflags hbd ⟨B.exec, B.bytes, B.returns, hml, hown, hts, hX, hbl, B.notSynchronized, hgv, (name_of_methodNamed B.named B.method).1, htab⟩
    obtain ⟨t, a1, o, b1, b2, b3⟩ := K s₁ rfl X₀
    exact ⟨t, o, a1, b1, b2, b3⟩
theorem lw_pre_spec {args : Array Value} {s : State} (h : (Jvm.Cond.and given_1 narrow_1).before args s = true) (hr : rest_1_c.before args s = true) : ∃ (b : Addr) (xs : List Int32), lw_P b xs args s := by
  have hs := flat_of_before _ h
  have hq := flat_of_before _ hr
  have hc : (Cond.count 1).before args s = true := hs _ (by decide +kernel)
  have harr : (Cond.arrayOf (.arg 0) .int).before args s = true := hs _ (by decide +kernel)
  have hle : (Cond.le (.length (.arg 0)) (.int 2048)).before args s = true := hs _ (by decide +kernel)
  have hlen : (Cond.isInt (.length (.arg 0))).before args s = true := hq _ (by decide +kernel)
  have hall : (Cond.all (.arg 0) (.isInt (.elem (.arg 0) (.index 0)))).before args s = true := hq _ (by decide +kernel)
  obtain ⟨b, xs, hb, hx⟩ := State.ints_of_pre rfl harr hlen hall
  have hsm : xs.length < 2 ^ 31 := hx.choose_spec.2.2.2
  have hev : (Term.length (.arg 0)).eval args s none [] s = some (.int xs.length.toInt32) := hx.length_eval hb
  have hv := Cond.le_ints hev (show (Term.int 2048).eval args s none [] s = some (.int 2048) from rfl)
  have hd : xs.length.toInt32 ≤ 2048 := by
    simpa [Cond.before, Cond.holds, hv] using hle
  have hN : xs.length ≤ 2048 := (Int32.ofNat_le_ofNat hsm (by decide)).mp (show Int32.ofNat xs.length ≤ Int32.ofNat 2048 from hd)
  exact ⟨b, xs, Cond.one_arg hc (show args[0]? = some (.ref b) from hb), hx, hN, h⟩
theorem lw_comes (l : Launch) (hflags : l.flags = flags0) : Comes l x (Jvm.Cond.code x code maxLocals ret :: tables_1) room_1 (fun tb e args s => Calls_1 tb e args s ∧ rest_1 tb e args s ∧ Pre_1 tb e args s)
    (fun _ _ args s o t => lw_Q args s o t) := by
  intro p e ha hc hk s m args below hf hfit hheap happ hpre
  obtain ⟨b, xs, hP⟩ := lw_pre_spec hpre.2.2 hpre.2.1
  obtain ⟨k, o, h1, h2, h3, hQ⟩ := lw_walk l hflags b xs p e ha hc hk s m args below hf ((Spec.applies_iff_loose hf).mp happ).1 hP trivial
  exact ⟨k, o, h1, h2, h3, hQ⟩
theorem lw_frame {s t : State} {o : Outcome} {args : Array Value} (h : State.butDraws s t lw_cs (fun t1 => Framed s o t1 [] 948316 6138517)) :
    State.butDraws s t [Jvm.Choice.named "NaN.bits"] (fun t1 => Framed s o t1 (fieldLocs frame_1_writes args s ++ arrayLocs frame_1_arrays args s ++ staticLocs frame_1_statics s) 948316 6138517) := h
theorem lw_limb (L : Cond) (hL : ∀ (args : Array Value) (s t : State), L.after args s (.returned (some (.int 1))) t = true) :
    ArmFor flags0 classFile x code maxLocals ret World_1 tables_1 room_1 Calls_1 rest_1 Pre_1
      (fun tb e a s o t => postC L tb e a s o t ∧ State.butDraws s t [Jvm.Choice.named "NaN.bits"] (fun t1 => Framed s o t1 (fieldLocs frame_1_writes a s ++ arrayLocs frame_1_arrays a s ++ staticLocs frame_1_statics s) 948316 6138517)) := by
  intro l hflags _ _ p e ha hc hk s m args below hf hfit hheap happ hpre
  obtain ⟨k, o, h1, h2, h3, rfl, hF⟩ := lw_comes l hflags p e ha hc hk s m args below hf hfit hheap happ hpre
  exact ⟨k, _, h1, h2, h3, hL args s _, lw_frame hF⟩
theorem i_vc : Claimed_1_1 ∧ Claimed_1_2 := ⟨lw_limb limb_1_1 (fun args s t => by simp [limb_1_1, Cond.after, Cond.holds, Cond.value]), lw_limb limb_1_2 (fun args s t => Cond.after_iff.mpr (by
  first | (rw [show limb_1_2 = Cond.eq .result (.int 1) from rfl, Cond.eq_ints (x := 1) (y := 1) rfl rfl]; simp; done) | (simp [limb_1_2, Cond.value, Term.eval]; done)))⟩
