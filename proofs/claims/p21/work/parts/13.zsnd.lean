section ZSND
variable {p : Program} {l : Launch} {e : Env} {R : Room} {s : State} {m : MethodId} {args : Array Value} {below : List Frame} {meth : Method} {c : Code} {H : Heap} {locs : List Loc} {cells slots : Nat} {Q : State → Prop}
variable {cl : List vw_C} {G : zG} {L : zL} {P : zProg} {zW : List Jvm.Cond} {ss : Nat → String × String × String} {sv : Nat → Value}
theorem zs_ret {own nm : String} {nL : Nat} {k pc t : Nat} {ls : Array Slot} {v : Value} {h : zH} (X : zcx p s m args meth c R P zW cl G ss sv own nm (L.2.1 k) nL) (hret : meth.sig.returnType = L.2.2.1 k) (hlocks : meth.locks = false) (hr : zrel cl G h H) (hL : ∀ z ∈ locs, G.2.2.heap.size ≤ z.base)
    (hlk : zlkR L (L.2.1 k) pc k t) (hv : zty t v = true) (hc : cells ≤ R.cells) (hs : slots ≤ R.slots) :
    W p l e R s m args below meth c H locs cells slots (vx_MQ below (zQc cl G (.inl (some v), h)) (zXC cl G L (.inl (some v), h)) args s R.cells R.slots (fun q => G.2.2.heap.size ≤ q)) (F0 m pc ls [v]) := by
  obtain ⟨hx, hb, hts, hown, hnm, hK, hsv, hR1, hR2, hml⟩ := X
  refine W.widen hc hs (vx_ret ?_)
  have hq : ∀ t : State, t.heap = H → s.WarmedH t.vm → zQc cl G (.inl (some v), h) args s (.returned (some v)) t := fun t ht hW => ⟨_, rfl, rfl, by rw [ht]; exact hr⟩
  rcases hlk with ⟨rfl, hd, hrt⟩ | ⟨rfl, hd, hrt⟩ | ⟨rfl, hd, hrt⟩ | ⟨rfl, hd, hrt⟩ | ⟨rfl, hd, hrt⟩ | ⟨rfl, hd, hrt⟩ | ⟨rfl, hd, rt, hrt, hrt2⟩
  · obtain ⟨y, rfl⟩ := zty_int hv
    exact W.iret hx hb (hret.trans hrt) hq hL hd
  · have hn := (zt_fits hv (Or.inr (Or.inr (Or.inr (Or.inr (Or.inl ⟨rfl, rfl⟩)))))).1
    cases v <;> first | exact W.zret hx hb (hret.trans hrt) hn hq hL hd | cases hv
  · have hn := (zt_fits hv (Or.inr (Or.inr (Or.inr (Or.inr (Or.inr (Or.inr ⟨rfl, rfl⟩))))))).1
    cases v <;> first | exact W.zret hx hb (hret.trans hrt) hn hq hL hd | cases hv
  · obtain ⟨y, rfl⟩ := zty_long hv
    exact W.lret hx hb (hret.trans hrt) hq hL hd
  · obtain ⟨y, rfl⟩ := zty_float hv
    exact W.fret hx hb (hret.trans hrt) hq hL hd
  · obtain ⟨y, rfl⟩ := zty_double hv
    exact W.dret hx hb (hret.trans hrt) hq hL hd
  · exact W.aret hx hb (hret.trans hrt) hrt2 (zty_ref hv) hq hL hd
theorem zs_catch {k pc E : Nat} {nL : Nat} {ls : List Slot} {rest : List Value} {h : zH} {r : zO × zH} {q : Addr} {ce : Cell} (X : zcx p s m args meth c R P zW cl G ss sv (L.1 k).cls (L.1 k).name (L.2.1 k) nL) (hret : meth.sig.returnType = L.2.2.1 k) (hlocks : meth.locks = false) (htab : c.exceptionTable.toList = tableOf (L.2.2.2.1 k))
    (hlk : zlkH L zW G (L.1 k).cls (L.2.1 k) (P.2.2.1 k) (L.2.2.2.1 k)) (hrt : L.2.2.2.1 k ≠ [] → L.2.2.1 k = some .int) (hr : zrel cl G h H) (hL : ∀ z ∈ locs, G.2.2.heap.size ≤ z.base)
    (hs : zcatch P k pc E ls h = some r) (hce : H[q]? = some ce) (hcv : ce.vm = .none) (hcl : s.vm.findClass (L.2.2.2.2.1 E) = some ce.cls) (hc : cells ≤ R.cells) (hsl : slots ≤ R.slots) :
    vx_W p l e R s m args below meth c H locs cells slots (vx_MQ below (zQc cl G r) (zXC cl G L r) args s R.cells R.slots (fun q => G.2.2.heap.size ≤ q)) (F0 m pc ls.toArray rest) q := by
  have X0 := X
  obtain ⟨hx, hb, hts, hown, hnm, hK, hsv, hR1, hR2, hml⟩ := X
  unfold zcatch at hs
  split at hs
  · next hP =>
    cases hs
    have ht0 : L.2.2.2.1 k = [] := by
      cases h9 : L.2.2.2.1 k with
      | nil => rfl
      | cons a b => rw [hP, h9] at hlk; cases hlk
    rw [ht0] at htab
    exact vx_out (fun x hx9 => by rw [htab] at hx9; cases hx9) hlocks hce hcv hcl (fun t ht hW => ⟨E, rfl, rfl, by rw [ht]; exact hr⟩) hL hc hsl
  · split at hs
    · next q9 hq9 =>
      split at hs
      · next hun =>
        cases hs
        obtain ⟨pre, x, suf, e1, e2, e3, e4, e5, e6, ⟨v, hv, hhand⟩, e8, e9⟩ := zcatch_find _ _ hlk hq9
        have hne : L.2.2.2.1 k ≠ [] := by
          intro h9
          rw [h9] at e1
          have := congrArg List.length e1
          simp [tableOf] at this
        have hri := hrt hne
        refine vx_catch hown pre x suf (htab.trans e1) (fun z hz => ?_) e3 e4 (hts _ e5) (hts _ e6) hce hcv hcl ?_
        · rcases e2 z hz with h1 | ⟨h1, nm9, h2, h3⟩
          · exact Or.inl h1
          · exact Or.inr ⟨h1, nm9, hts _ h2, h3.moved hK.2.2.alike⟩
        · have hst : storeLocals ls.toArray q9.2.2.2.1 (.ref q) = some (ls.toArray.setIfInBounds q9.2.2.2.1 (.val (.ref q))) := storeLocals_cat1 (x := .unset) (by simpa using hun) rfl trivial
          have hend : ∀ (pc9 : Nat) (ls9 : Array Slot), decode (L.2.1 k) pc9 = .ok (.ireturn, 1) → W p l e R s m args below meth c H locs cells slots (vx_MQ below (zQc cl G (.inl (some (.int (Int32.ofInt q9.2.2.2.2))), h)) (zXC cl G L (.inl (some (.int (Int32.ofInt q9.2.2.2.2))), h)) args s R.cells R.slots (fun q => G.2.2.heap.size ≤ q)) (F0 m pc9 ls9 [.int (Int32.ofInt q9.2.2.2.2)]) :=
            fun pc9 ls9 hd9 => zs_ret X0 hret hlocks hr hL (t := 0) (Or.inl ⟨rfl, hd9, hri⟩) rfl hc hsl
          rcases hhand with ⟨q4, hq4, d1, d2, d3⟩ | ⟨d1, d2, d3⟩
          · exact zw_astore_n hx hb rfl d1 hq4 hst (lv_iconst hx hb d2 hv (hend _ _ d3))
          · exact zw_astore hx hb rfl d1 hst (lv_iconst hx hb d2 hv (hend _ _ d3))
      · cases hs
    · cases hs
theorem zs_throw {k pc E : Nat} {nL : Nat} {ls : List Slot} {st : List Value} {h h0 : zH} (hl : l.stackTraces = false) (F : zfacts L zW G ss sv) (X : zcx p s m args meth c R P zW cl G ss sv (L.1 k).cls (L.1 k).name (L.2.1 k) nL) (hnl : ls.length = nL) (hlocks : meth.locks = false) (htab : c.exceptionTable.toList = tableOf (L.2.2.2.1 k)) (h0t : L.2.2.2.1 k = [])
    (hlk : zlkX L zW G (L.1 k).cls (L.2.1 k) pc E) (hr0 : zrel cl G h0 s.heap) (hmono : h0.2.1 ≤ h.2.1) (hr : zrel cl G h H) (hL : ∀ z ∈ locs, G.2.2.heap.size ≤ z.base) (hst : st.length ≤ 4) (hRf : 11 ≤ R.frames) (hRl : 300 ≤ R.locals) (hc : cells + 1 ≤ R.cells) (hsl : slots + 6 ≤ R.slots) :
    W p l e R s m args below meth c H locs cells slots (vx_MQ below (zQc cl G (.inr E, znew h (0, []) 6)) (zXC cl G L (.inr E, znew h (0, []) 6)) args s R.cells R.slots (fun q => G.2.2.heap.size ≤ q)) (F0 m pc ls.toArray st) := by
  obtain ⟨hx, hb, hts, hown, hnm, hK, hsv, hR1, hR2, hml⟩ := X
  obtain ⟨ik, is, ic, ix, rx, text, Y0, names, ⟨x0, x1, x2, x5, hY0⟩, f1, f2, f3, w1, w2, w3, ⟨sa, hsa⟩, d0, d3, hdd⟩ := hlk
  have hU := F.2.2.1
  have hN := F.2.2.2
  rw [h0t] at htab
  have hout : ∀ (q : Nat) (x : ExceptionTableEntry), x ∈ c.exceptionTable.toList → covers x q = false := fun q x hx9 => by rw [htab] at hx9; cases hx9
  have hkept : ∀ q : Nat, q < G.2.2.heap.size → ¬ (G.2.2.heap.size ≤ q) → s.heap[q]? = G.2.2.heap[q]? := fun q h1 _ => hr0.2.2.1 q h1
  have hU' : vx_Zq Bundle.tN "UNASSIGNED_STACK" Bundle.steD (fun q => G.2.2.heap.size ≤ q) s s.heap := vx_Zq.moved hK.2.2.alike (hU.kept (fun q h1 h2 => hkept q h1 h2))
  have hN' : vx_Zq Bundle.tN "SUPPRESSED_SENTINEL" Bundle.listD (fun q => G.2.2.heap.size ≤ q) s s.heap := vx_Zq.moved hK.2.2.alike (hN.kept (fun q h1 h2 => hkept q h1 h2))
  have hS : va_S (fun q => G.2.2.heap.size ≤ q) s.heap H locs := ⟨by rw [hr0.1, hr.1]; exact hmono, fun q h1 h2 => by rw [hr.2.2.1 q (by omega), hr0.2.2.1 q (by omega)], hL⟩
  have hsum := zcat_sum (st := st)
  have hgood : ∀ w ∈ Cond.classLink (L.1 k).cls ik (L.2.2.2.2.1 E) :: Cond.initialized (L.2.2.2.2.1 E) :: zxS (L.1 k).cls ic (L.2.2.2.2.1 E) ix rx Y0 names, vx_ot w = true := by
    intro w hw
    rcases List.mem_cons.mp hw with rfl | hw
    · rfl
    · rcases List.mem_cons.mp hw with rfl | hw
      · rfl
      · exact (w3 w hw).2
  have hxx : ∀ t : State, s.WarmedH t.vm → t.heap.size = H.size + 1 → (∀ q : Nat, q < H.size → t.heap[q]? = H[q]?) → zXC cl G L (.inr E, znew h (0, []) 6) (L.2.2.2.2.1 E) s t :=
    fun t hW hz ho => ⟨E, rfl, rfl, hr.new hz ho (zat.zero rfl)⟩
  rcases hdd with ⟨d4, d6, d9⟩ | ⟨d4, d7, d10⟩
  · exact zx_throwS (A := fun q => G.2.2.heap.size ≤ q) hx hb hl x0 x1 x2 x5 hY0 hown f1 f2 (hts _ w1) (hts _ w2) (vk_R.warm hK.2.2 hsa) (fun w hw => hts _ (w3 w hw).1) hgood hU' hN' hS (by rw [hml]; simpa using hnl) d0 d3 d4 d6 d9 (hout _) (by omega) (by omega) hc hsl hlocks hxx hL hc hsl
  · exact zx_throwSW (A := fun q => G.2.2.heap.size ≤ q) hx hb hl x0 x1 x2 x5 hY0 hown f1 f2 (hts _ w1) (hts _ w2) (vk_R.warm hK.2.2 hsa) (fun w hw => hts _ (w3 w hw).1) hgood hU' hN' hS (by rw [hml]; simpa using hnl) d0 d3 d4 d7 d10 (hout _) (by omega) (by omega) hc hsl hlocks hxx hL hc hsl
end ZSND
