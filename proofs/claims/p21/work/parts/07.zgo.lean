theorem zgo_inj {pc pc' : Nat} {ls ls' : List Slot} {st st' : List Value} {h h' : zH} (e : zgo pc ls st h = some (.inl (pc', ls', st', h'))) : pc = pc' ∧ ls = ls' ∧ st = st' ∧ h = h' := by
  unfold zgo at e
  cases e
  exact ⟨rfl, rfl, rfl, rfl⟩
theorem zsame_of {zW : List Cond} {args : Array Value} {s : State} (hts : ∀ w ∈ zW, w.before args s = true) {ref O n d : String} (h : zsame zW ref O n d) : ∀ x, s.fieldFound? O n d = some x → s.fieldFound? ref n d = some x := by
  rcases h with rfl | h
  · exact fun _ h9 => h9
  · exact u_same (hts _ h)
theorem zty_int {v : Value} (h : zty 0 v = true) : ∃ x, v = .int x := by cases v <;> first | exact ⟨_, rfl⟩ | cases h
theorem zty_long {v : Value} (h : zty 1 v = true) : ∃ x, v = .long x := by cases v <;> first | exact ⟨_, rfl⟩ | cases h
theorem zty_float {v : Value} (h : zty 2 v = true) : ∃ x, v = .float x := by cases v <;> first | exact ⟨_, rfl⟩ | cases h
theorem zty_double {v : Value} (h : zty 3 v = true) : ∃ x, v = .double x := by cases v <;> first | exact ⟨_, rfl⟩ | cases h
theorem zty_ref {v : Value} (h : zty 4 v = true) : v = .null ∨ ∃ x, v = .ref x := by cases v <;> first | exact Or.inl rfl | exact Or.inr ⟨_, rfl⟩ | cases h
section ZGO
variable {p : Program} {l : Launch} {e : Env} {R : Room} {s : State} {m : MethodId} {args : Array Value} {below : List Frame} {meth : Method} {c : Code} {H : Heap} {locs : List Loc} {cells slots : Nat} {Q : State → Prop}
variable {cc : ByteArray} {pc : Nat} {st : List Value} {cl : List vw_C} {G : zG} {h : zH} {P : zProg} {zW : List Cond} {ss : Nat → String × String × String} {own nm : String} {sv : Nat → Value}
/-- what a method's walk rests on throughout -/
def zcx (p : Program) (s : State) (m : MethodId) (args : Array Value) (meth : Method) (c : Code) (R : Room) (P : zProg) (zW : List Cond) (cl : List vw_C) (G : zG) (ss : Nat → String × String × String) (sv : Nat → Value) (own nm : String) (cc : ByteArray) (nL : Nat) : Prop :=
  p.tables.exec = Jvm.exec ∧ c.code = cc ∧ (∀ w ∈ zW, w.before args s = true) ∧ s.vm.findClass own = some m.cls ∧ meth.name = nm ∧ zK cl G s ∧ (∀ i, i < 4 → va_Z (ss i).1 (ss i).2.1 (ss i).2.2 (sv i) (fun q => G.2.2.heap.size ≤ q) G.2.2 G.2.2.heap) ∧ 1 ≤ R.frames ∧ 100 ≤ R.locals ∧ c.maxLocals = nL
theorem zcat_sum {st : List Value} : (st.map fun v => v.category).sum ≤ 2 * st.length := by
  induction st with
  | nil => exact Nat.le_refl _
  | cons v st ih =>
    simp only [List.map_cons, List.sum_cons, List.length_cons]
    rcases lv_cat v with h | h <;> omega
theorem zlook {x : Int} {pc j : Nat} {d : Int} (hd : (pc : Int) + d = (j : Int)) : ∀ (ps : List (Int × Int)), ps.all (fun q => decide (0 ≤ (pc : Int) + q.2)) = true →
    (pc : Int) + Op.lookupswitch.offset ps d x = (((((ps.map (fun q => (q.1, ((pc : Int) + q.2).toNat))).find? (fun q => q.1 == x)).elim j (fun q => q.2)) : Nat) : Int) := by
  intro ps
  induction ps with
  | nil => intro _; simpa [Op.lookupswitch.offset] using hd
  | cons a ps ih =>
    intro ha
    obtain ⟨k, o⟩ := a
    simp only [List.all_cons, Bool.and_eq_true, decide_eq_true_eq] at ha
    rw [Op.lookupswitch.offset_cons]
    by_cases hk : k = x
    · rw [if_pos hk]
      simp only [List.map_cons]
      rw [List.find?_cons_of_pos (by simp [hk])]
      simp only [Option.elim]
      omega
    · rw [if_neg hk]
      simp only [List.map_cons]
      rw [List.find?_cons_of_neg (by simpa using hk)]
      exact ih ha.2
set_option maxHeartbeats 4000000 in
theorem zs_go {ls ls' : List Slot} {pc' : Nat} {st' : List Value} {h' : zH} {I : zI} (X : zcx p s m args meth c R P zW cl G ss sv own nm cc ls.length) (hr : zrel cl G h H) (hL : ∀ z ∈ locs, G.2.2.heap.size ≤ z.base)
    (hlk : zlkI P zW cl ss own nm cc pc I) (hs : zstep P sv I pc ls st h = some (.inl (pc', ls', st', h'))) (hcells : cells + (h'.2.1 - h.2.1) ≤ R.cells) (hslots : slots + (h'.2.2 - h.2.2) ≤ R.slots)
    (kk : ∀ (H1 : Heap) (locs1 : List Loc), zrel cl G h' H1 → (∀ z ∈ locs1, G.2.2.heap.size ≤ z.base) → W p l e R s m args below meth c H1 locs1 (cells + (h'.2.1 - h.2.1)) (slots + (h'.2.2 - h.2.2)) Q (F0 m pc' ls'.toArray st')) :
    W p l e R s m args below meth c H locs cells slots Q (F0 m pc ls.toArray st) := by
  obtain ⟨hx, hb, hts, hown, hnm, hK, hsv, hR1, hR2, hml⟩ := X
  have k0 : h' = h → W p l e R s m args below meth c H locs cells slots Q (F0 m pc' ls'.toArray st') := by
    intro e0
    subst e0
    have := kk H locs hr hL
    simpa using this
  unfold zlkI at hlk
  split at hlk
  · -- push int
    obtain ⟨rfl, rfl, rfl, e9⟩ := zgo_inj hs
    have k1 := k0 e9.symm
    rcases hlk with ⟨q, hd, rfl, hv⟩ | ⟨q, hd, rfl, hv⟩ | ⟨q, hd, rfl, hv⟩ | ⟨q, hd, rfl, hv⟩ | ⟨q, hd, rfl, hv⟩
    · exact lv_iconst hx hb hd hv k1
    · exact lv_bipush hx hb hd hv k1
    · exact lv_sipush hx hb hd hv k1
    · exact lv_ldc hx hb hown (hts _ hv) hd k1
    · exact lv_ldcw hx hb hown (hts _ hv) hd k1
  · obtain ⟨rfl, rfl, rfl, e9⟩ := zgo_inj hs
    have k1 := k0 e9.symm
    obtain ⟨hd, rfl⟩ := hlk
    exact lv_null hx hb hd k1
  · obtain ⟨rfl, rfl, rfl, e9⟩ := zgo_inj hs
    have k1 := k0 e9.symm
    rcases hlk with ⟨q, hd, rfl, hv⟩ | ⟨q, hd, rfl, hv⟩
    · exact lv_lconst hx hb hd hv k1
    · exact lv_ldc2 hx hb hown (hts _ hv) hd k1
  · obtain ⟨rfl, rfl, rfl, e9⟩ := zgo_inj hs
    have k1 := k0 e9.symm
    obtain ⟨hd, rfl⟩ := hlk
    exact lv_fconst0 hx hb hd k1
  · -- load
    rename_i i t x n
    replace hs : zld t (ls[i]?) (fun v => zgo (pc + n) ls (v :: st) h) = some (.inl (pc', ls', st', h')) := hs
    unfold zld at hs
    split at hs
    · next v hv =>
      split at hs
      · next ht =>
        obtain ⟨rfl, rfl, rfl, e9⟩ := zgo_inj hs
        have k1 := k0 e9.symm
        have hv2 : ls.toArray[i]? = some (.val v) := by simpa using hv
        rcases hlk with ⟨rfl, hlk⟩ | ⟨rfl, hlk⟩ | ⟨rfl, hlk⟩ | ⟨rfl, hlk⟩ | ⟨rfl, hlk⟩
        · obtain ⟨y, rfl⟩ := zty_int ht
          rcases hlk with ⟨q, hd, hq, rfl⟩ | ⟨hd, rfl⟩
          · exact lv_iload_n hx hb hd hq hv2 k1
          · exact lv_iload hx hb hd hv2 k1
        · obtain ⟨y, rfl⟩ := zty_long ht
          rcases hlk with ⟨q, hd, hq, rfl⟩ | ⟨hd, rfl⟩
          · exact lv_lload_n hx hb hd hq hv2 k1
          · exact lv_lload hx hb hd hv2 k1
        · obtain ⟨y, rfl⟩ := zty_float ht
          rcases hlk with ⟨q, hd, hq, rfl⟩ | ⟨hd, rfl⟩
          · exact lv_fload_n hx hb hd hq hv2 k1
          · exact lv_fload hx hb hd hv2 k1
        · obtain ⟨y, rfl⟩ := zty_double ht
          rcases hlk with ⟨q, hd, hq, rfl⟩ | ⟨hd, rfl⟩
          · exact lv_dload_n hx hb hd hq hv2 k1
          · exact lv_dload hx hb hd hv2 k1
        · rcases zty_ref ht with rfl | ⟨y, rfl⟩
          · rcases hlk with ⟨q, hd, hq, rfl⟩ | ⟨hd, rfl⟩
            · exact lv_aload_nN hx hb hd hq hv2 k1
            · exact lv_aloadN hx hb hd hv2 k1
          · rcases hlk with ⟨q, hd, hq, rfl⟩ | ⟨hd, rfl⟩
            · exact lv_aload_n hx hb hd hq hv2 k1
            · exact lv_aload hx hb hd hv2 k1
      · cases hs
    · cases hs
  · -- store
    rename_i i t x n
    replace hs : zstore t i (pc + n) ls st h = some (.inl (pc', ls', st', h')) := hs
    unfold zstore at hs
    split at hs
    · next v st0 =>
      split at hs
      · next ht =>
        split at hs
        · next l2 hl2 =>
          obtain ⟨rfl, rfl, rfl, e9⟩ := zgo_inj hs
          have k1 := k0 e9.symm
          have k1 : W p l e R s m args below meth c H locs cells slots Q (F0 m (pc + n) l2 st0) := k1
          rcases hlk with ⟨rfl, hlk⟩ | ⟨rfl, hlk⟩ | ⟨rfl, hd, rfl⟩ | ⟨rfl, hd, rfl⟩
          · obtain ⟨y, rfl⟩ := zty_int ht
            rcases hlk with ⟨q, hd, hq, rfl⟩ | ⟨hd, rfl⟩
            · exact zw_istore_n hx hb hd hq hl2 k1
            · exact zw_istore hx hb hd hl2 k1
          · rcases hlk with ⟨q, hd, hq, rfl⟩ | ⟨hd, rfl⟩
            · exact zw_astore_n hx hb ht hd hq hl2 k1
            · exact zw_astore hx hb ht hd hl2 k1
          · obtain ⟨y, rfl⟩ := zty_float ht
            exact zw_fstore hx hb hd hl2 k1
          · obtain ⟨y, rfl⟩ := zty_double ht
            exact zw_dstore hx hb hd hl2 k1
        · cases hs
      · cases hs
    · cases hs
  · -- iinc
    rename_i i y x n
    replace hs : ziinc i (pc + n) x ls st h = some (.inl (pc', ls', st', h')) := hs
    unfold ziinc at hs
    split at hs
    · next v hv =>
      split at hs
      · next l2 hl2 =>
        obtain ⟨rfl, rfl, rfl, e9⟩ := zgo_inj hs
        have k1 := k0 e9.symm
        have k1 : W p l e R s m args below meth c H locs cells slots Q (F0 m (pc + n) l2 st) := k1
        obtain ⟨hd, rfl⟩ := hlk
        exact zw_iinc hx hb hd (by simpa using hv) hl2 k1
      · cases hs
    · cases hs
  · -- two ints
    rename_i o y x n
    replace hs : (match st with
      | .int y :: .int x :: st' => (match zbin o x y with
        | some v => zgo (pc + n) ls (.int v :: st') h
        | none => none)
      | _ => none) = some (.inl (pc', ls', st', h')) := hs
    split at hs
    · next b a st0 =>
      split at hs
      · next v hv =>
        obtain ⟨rfl, rfl, rfl, e9⟩ := zgo_inj hs
        have k1 := k0 e9.symm
        obtain ⟨rfl, hlk⟩ := hlk
        rcases hlk with ⟨rfl, hd⟩ | ⟨rfl, hd⟩ | ⟨rfl, hd⟩ | ⟨rfl, hd⟩ | ⟨rfl, hd⟩ | ⟨rfl, hd⟩ | ⟨rfl, hd⟩ | ⟨rfl, hd⟩ | ⟨rfl, hd⟩ | ⟨rfl, hd⟩ | ⟨rfl, hd⟩
        · cases hv; exact lv_iadd hx hb hd k1
        · cases hv; exact lv_isub hx hb hd k1
        · cases hv; exact lv_imul hx hb hd k1
        · cases hv; exact lv_iand hx hb hd k1
        · cases hv; exact lv_ior hx hb hd k1
        · cases hv; exact lv_ixor hx hb hd k1
        · cases hv; exact lv_ishl hx hb hd k1
        · cases hv; exact lv_ishr hx hb hd k1
        · replace hv : (if b = 0 then none else some (a / b)) = some v := hv
          split at hv
          · cases hv
          · next hne => cases hv; exact lv_idiv hx hb hd hne k1
        · replace hv : (if b = 0 then none else some (a - a / b * b)) = some v := hv
          split at hv
          · cases hv
          · next hne => cases hv; exact lv_irem hx hb hd hne k1
        · cases hv; exact lv_iushr hx hb hd rfl k1
      · cases hs
    · cases hs
  · -- two longs
    rename_i o y x n
    replace hs : (match st with
      | .long y :: .long x :: st' => (match zlbin o x y with
        | some v => zgo (pc + n) ls (.long v :: st') h
        | none => none)
      | _ => none) = some (.inl (pc', ls', st', h')) := hs
    split at hs
    · next b a st0 =>
      split at hs
      · next v hv =>
        obtain ⟨rfl, rfl, rfl, e9⟩ := zgo_inj hs
        have k1 := k0 e9.symm
        obtain ⟨rfl, hlk⟩ := hlk
        rcases hlk with ⟨rfl, hd⟩ | ⟨rfl, hd⟩ | ⟨rfl, hd⟩ | ⟨rfl, hd⟩
        · cases hv; exact lv_ladd hx hb hd k1
        · cases hv; exact lv_lsub hx hb hd k1
        · replace hv : (if b = 0 then none else some (a / b)) = some v := hv
          split at hv
          · cases hv
          · next hne => cases hv; exact lv_ldiv hx hb hd hne k1
        · replace hv : (if b = 0 then none else some (a - a / b * b)) = some v := hv
          split at hv
          · cases hv
          · next hne => cases hv; exact lv_lrem hx hb hd hne k1
      · cases hs
    · cases hs
  · -- one operand
    rename_i o y x n
    replace hs : (match st with
      | v :: st' => (match zun o v with
        | some w => zgo (pc + n) ls (w :: st') h
        | none => none)
      | _ => none) = some (.inl (pc', ls', st', h')) := hs
    split at hs
    · next v st0 =>
      split at hs
      · next w hw =>
        obtain ⟨rfl, rfl, rfl, e9⟩ := zgo_inj hs
        have k1 := k0 e9.symm
        obtain ⟨rfl, hlk⟩ := hlk
        rcases hlk with ⟨rfl, hd⟩ | ⟨rfl, hd⟩ | ⟨rfl, hd⟩ | ⟨rfl, hd⟩ | ⟨rfl, hd⟩ | ⟨rfl, hd⟩ | ⟨rfl, hd⟩ | ⟨rfl, hd⟩ | ⟨rfl, hd⟩
        · cases v <;> first | (cases hw; exact lv_ineg hx hb hd k1) | cases hw
        · cases v <;> first | (cases hw; exact lv_i2l hx hb hd rfl k1) | cases hw
        · cases v <;> first | (cases hw; exact lv_l2i hx hb hd rfl k1) | cases hw
        · cases v <;> first | (cases hw; exact lv_i2c hx hb hd rfl k1) | cases hw
        · cases v <;> first | (cases hw; exact lv_i2b hx hb hd rfl k1) | cases hw
        · cases v <;> first | (cases hw; exact lv_i2d hx hb hd k1) | cases hw
        · cases v <;> first | (cases hw; exact lv_i2f hx hb hd k1) | cases hw
        · cases v with
          | float a =>
            replace hw : (if FP.f2d a &&& 0x7fffffffffffffff ≤ 0x7ff0000000000000 then some (Value.double (FP.f2d a)) else none) = some w := hw
            split at hw
            · next hne => cases hw; exact lv_f2d hx hb hd hne k1
            · cases hw
          | _ => cases hw
        · cases v <;> first | (cases hw; exact lv_lneg hx hb hd k1) | cases hw
      · cases hs
    · cases hs
  · -- comparisons, divisions of floats
    rename_i o y x n
    replace hs : zcmp o (pc + n) ls st h = some (.inl (pc', ls', st', h')) := hs
    obtain ⟨rfl, hlk⟩ := hlk
    rcases hlk with ⟨rfl, hd⟩ | ⟨rfl, hd⟩ | ⟨rfl, hd⟩ | ⟨rfl, hd⟩ | ⟨rfl, hd⟩
    · replace hs : (match st with
        | .long y :: .long x :: st' => zgo (pc + 1) ls (.int (lg_cmp x y) :: st') h
        | _ => none) = some (.inl (pc', ls', st', h')) := hs
      split at hs
      · obtain ⟨rfl, rfl, rfl, e9⟩ := zgo_inj hs
        exact W.lcmp hx hb hd (k0 e9.symm)
      · cases hs
    · replace hs : (match st with
        | .double y :: .double x :: st' => zgo (pc + 1) ls (.int (Op.cmpValue (FP.dcmp x y) .l) :: st') h
        | _ => none) = some (.inl (pc', ls', st', h')) := hs
      split at hs
      · obtain ⟨rfl, rfl, rfl, e9⟩ := zgo_inj hs
        exact lv_dcmp hx hb hd (k0 e9.symm)
      · cases hs
    · replace hs : (match st with
        | .float y :: .float x :: st' => zgo (pc + 1) ls (.int (Op.cmpValue (FP.fcmp x y) .l) :: st') h
        | _ => none) = some (.inl (pc', ls', st', h')) := hs
      split at hs
      · obtain ⟨rfl, rfl, rfl, e9⟩ := zgo_inj hs
        exact lv_fcmp hx hb hd (k0 e9.symm)
      · cases hs
    · replace hs : (match st with
        | .double y :: .double x :: st' => if FP.ddiv x y &&& 0x7fffffffffffffff ≤ 0x7ff0000000000000 then zgo (pc + 1) ls (.double (FP.ddiv x y) :: st') h else none
        | _ => none) = some (.inl (pc', ls', st', h')) := hs
      split at hs
      · split at hs
        · next hne =>
          obtain ⟨rfl, rfl, rfl, e9⟩ := zgo_inj hs
          exact lv_ddiv hx hb hd hne (k0 e9.symm)
        · cases hs
      · cases hs
    · replace hs : (match st with
        | .float y :: .float x :: st' => if FP.fdiv x y &&& 0x7fffffff ≤ 0x7f800000 then zgo (pc + 1) ls (.float (FP.fdiv x y) :: st') h else none
        | _ => none) = some (.inl (pc', ls', st', h')) := hs
      split at hs
      · split at hs
        · next hne =>
          obtain ⟨rfl, rfl, rfl, e9⟩ := zgo_inj hs
          exact lv_fdiv hx hb hd hne (k0 e9.symm)
        · cases hs
      · cases hs
  · -- the stack
    rename_i o y x n
    replace hs : zstk o (pc + n) ls st h = some (.inl (pc', ls', st', h')) := hs
    obtain ⟨rfl, hlk⟩ := hlk
    rcases hlk with ⟨rfl, hd⟩ | ⟨rfl, hd⟩ | ⟨rfl, hd⟩ | ⟨rfl, hd⟩ | ⟨rfl, hd⟩
    · replace hs : (match st with
        | a :: st' => if a.category = 1 then zgo (pc + 1) ls (a :: a :: st') h else none
        | _ => none) = some (.inl (pc', ls', st', h')) := hs
      split at hs
      · split at hs
        · next hne =>
          obtain ⟨rfl, rfl, rfl, e9⟩ := zgo_inj hs
          exact lv_dup hx hb hd hne (k0 e9.symm)
        · cases hs
      · cases hs
    · replace hs : (match st with
        | a :: b :: st' => if a.category = 1 ∧ b.category = 1 then zgo (pc + 1) ls (a :: b :: a :: st') h else none
        | _ => none) = some (.inl (pc', ls', st', h')) := hs
      split at hs
      · split at hs
        · next hne =>
          obtain ⟨rfl, rfl, rfl, e9⟩ := zgo_inj hs
          exact lv_dup_x1 hx hb hd hne.1 hne.2 (k0 e9.symm)
        · cases hs
      · cases hs
    · replace hs : (match st with
        | a :: b :: d :: st' => if a.category = 1 ∧ b.category = 1 ∧ d.category = 1 then zgo (pc + 1) ls (a :: b :: d :: a :: st') h else none
        | _ => none) = some (.inl (pc', ls', st', h')) := hs
      split at hs
      · split at hs
        · next hne =>
          obtain ⟨rfl, rfl, rfl, e9⟩ := zgo_inj hs
          exact lv_dup_x2 hx hb hd hne.1 hne.2.1 hne.2.2 (k0 e9.symm)
        · cases hs
      · cases hs
    · replace hs : (match st with
        | a :: b :: st' => if a.category = 1 ∧ b.category = 1 then zgo (pc + 1) ls (a :: b :: a :: b :: st') h else none
        | _ => none) = some (.inl (pc', ls', st', h')) := hs
      split at hs
      · split at hs
        · next hne =>
          obtain ⟨rfl, rfl, rfl, e9⟩ := zgo_inj hs
          exact lv_dup2_11 hx hb hd hne.1 hne.2 (k0 e9.symm)
        · cases hs
      · cases hs
    · replace hs : (match st with
        | a :: st' => if a.category = 1 then zgo (pc + 1) ls st' h else none
        | _ => none) = some (.inl (pc', ls', st', h')) := hs
      split at hs
      · split at hs
        · next hne =>
          obtain ⟨rfl, rfl, rfl, e9⟩ := zgo_inj hs
          exact lv_pop hx hb hd hne (k0 e9.symm)
        · cases hs
      · cases hs
  · -- if
    rename_i o j x n
    replace hs : zif o j (pc + 3) ls st h = some (.inl (pc', ls', st', h')) := hs
    obtain ⟨ho, off, hd, ht⟩ := hlk
    unfold zif at hs
    split at hs
    · next v st0 =>
      have key : (zcond o v 0 = true → W p l e R s m args below meth c H locs cells slots Q (F0 m j ls.toArray st0)) ∧ (¬ zcond o v 0 = true → W p l e R s m args below meth c H locs cells slots Q (F0 m (pc + 3) ls.toArray st0)) := by
        constructor
        · intro hc
          rw [if_pos hc] at hs
          obtain ⟨rfl, rfl, rfl, e9⟩ := zgo_inj hs
          exact k0 e9.symm
        · intro hc
          rw [if_neg hc] at hs
          obtain ⟨rfl, rfl, rfl, e9⟩ := zgo_inj hs
          exact k0 e9.symm
      rcases (show o = 0 ∨ o = 1 ∨ o = 2 ∨ o = 3 ∨ o = 4 ∨ o = 5 by omega) with rfl | rfl | rfl | rfl | rfl | rfl
      · exact lv_if_eq hx hb hd ht (fun h9 => key.1 (by simpa [zcond] using h9)) (fun h9 => key.2 (by simpa [zcond] using h9))
      · exact lv_if_ne hx hb hd ht (fun h9 => key.1 (by simpa [zcond] using h9)) (fun h9 => key.2 (by simpa [zcond] using h9))
      · exact lv_if_lt hx hb hd ht (fun h9 => key.1 (by simpa [zcond] using h9)) (fun h9 => key.2 (by simpa [zcond] using h9))
      · exact lv_if_ge hx hb hd ht (fun h9 => key.1 (by simpa [zcond] using h9)) (fun h9 => key.2 (by simpa [zcond] using h9))
      · exact lv_if_gt hx hb hd ht (fun h9 => key.1 (by simpa [zcond] using h9)) (fun h9 => key.2 (by simpa [zcond] using h9))
      · exact lv_if_le hx hb hd ht (fun h9 => key.1 (by simpa [zcond] using h9)) (fun h9 => key.2 (by simpa [zcond] using h9))
    · cases hs
  · -- if_icmp
    rename_i o j x n
    replace hs : zicmp o j (pc + 3) ls st h = some (.inl (pc', ls', st', h')) := hs
    obtain ⟨ho, off, hd, ht⟩ := hlk
    unfold zicmp at hs
    split at hs
    · next y v st0 =>
      have key : (zcond o v y = true → W p l e R s m args below meth c H locs cells slots Q (F0 m j ls.toArray st0)) ∧ (¬ zcond o v y = true → W p l e R s m args below meth c H locs cells slots Q (F0 m (pc + 3) ls.toArray st0)) := by
        constructor
        · intro hc
          rw [if_pos hc] at hs
          obtain ⟨rfl, rfl, rfl, e9⟩ := zgo_inj hs
          exact k0 e9.symm
        · intro hc
          rw [if_neg hc] at hs
          obtain ⟨rfl, rfl, rfl, e9⟩ := zgo_inj hs
          exact k0 e9.symm
      rcases (show o = 0 ∨ o = 1 ∨ o = 2 ∨ o = 3 ∨ o = 4 ∨ o = 5 by omega) with rfl | rfl | rfl | rfl | rfl | rfl
      · exact lv_icmp_eq hx hb hd ht (fun h9 => key.1 (by simpa [zcond] using h9)) (fun h9 => key.2 (by simpa [zcond] using h9))
      · exact lv_icmp_ne hx hb hd ht (fun h9 => key.1 (by simpa [zcond] using h9)) (fun h9 => key.2 (by simpa [zcond] using h9))
      · exact lv_icmp_lt hx hb hd ht (fun h9 => key.1 (by simpa [zcond] using h9)) (fun h9 => key.2 (by simpa [zcond] using h9))
      · exact lv_icmp_ge hx hb hd ht (fun h9 => key.1 (by simpa [zcond] using h9)) (fun h9 => key.2 (by simpa [zcond] using h9))
      · exact lv_icmp_gt hx hb hd ht (fun h9 => key.1 (by simpa [zcond] using h9)) (fun h9 => key.2 (by simpa [zcond] using h9))
      · exact lv_icmp_le hx hb hd ht (fun h9 => key.1 (by simpa [zcond] using h9)) (fun h9 => key.2 (by simpa [zcond] using h9))
    · cases hs
  · -- ifnull, ifnonnull
    rename_i o j x n
    replace hs : zifn o j (pc + 3) ls st h = some (.inl (pc', ls', st', h')) := hs
    obtain ⟨off, hd, ht⟩ := hlk
    unfold zifn at hs
    split at hs
    · obtain ⟨e1, rfl, rfl, e9⟩ := zgo_inj hs
      rcases hd with ⟨rfl, hd⟩ | ⟨rfl, hd⟩
      · rw [if_pos rfl] at e1; subst e1
        exact lv_ifnullN hx hb hd ht (k0 e9.symm)
      · rw [if_neg (by decide)] at e1; subst e1
        exact lv_ifnonnullN hx hb hd (k0 e9.symm)
    · obtain ⟨e1, rfl, rfl, e9⟩ := zgo_inj hs
      rcases hd with ⟨rfl, hd⟩ | ⟨rfl, hd⟩
      · rw [if_pos rfl] at e1; subst e1
        exact lv_ifnull hx hb hd (k0 e9.symm)
      · rw [if_neg (by decide)] at e1; subst e1
        exact lv_ifnonnull hx hb hd ht (k0 e9.symm)
    · cases hs
  · -- goto
    obtain ⟨rfl, rfl, rfl, e9⟩ := zgo_inj hs
    obtain ⟨off, hd, ht⟩ := hlk
    exact lv_goto hx hb hd ht (k0 e9.symm)
  · -- getfield
    rename_i kd j x n
    replace hs : zgetf kd j (pc + 3) ls st h = some (.inl (pc', ls', st', h')) := hs
    obtain ⟨ci, C, T, N, index, ref, rfl, hc, hj, hkd, hw, hsm, hd⟩ := hlk
    unfold zgetf at hs
    split at hs
    · next a st0 =>
      split at hs
      · next hk =>
        obtain ⟨rfl, rfl, rfl, e9⟩ := zgo_inj hs
        exact zw_getf hx hb hts hown hK hr hkd.2.1 hc hkd.1 hk.1 hj (hts _ hw) (zsame_of hts hsm) hd (k0 e9.symm)
      · cases hs
    · cases hs
  · -- putfield
    rename_i kd j x n
    replace hs : zputf kd j x.toNat (pc + 3) ls st h = some (.inl (pc', ls', st', h')) := hs
    obtain ⟨ci, C, T, N, index, ref, rfl, hc, hj, hkd, hw, hsm, hfin, ⟨ty, hty, htt⟩, hd⟩ := hlk
    obtain ⟨hci, hin, hinst, hini, hnms, hlen, ty0, hty0, hdef⟩ := hkd
    unfold zputf at hs
    split at hs
    · next v a st0 =>
      split at hs
      · next hk =>
        obtain ⟨rfl, rfl, rfl, rfl⟩ := zgo_inj hs
        have hty9 : ty0 j = ty := Option.some.inj ((hty0 j hj).symm.trans hty)
        refine zw_putf hx hb hts hown hK hr hL hin ty0 hty0 hnms hc hci hk.1 hj (hts _ hw) (zsame_of hts hsm) (fun hf => by rw [hnm]; exact hfin hf) (by rw [hty9]; exact zt_fits hk.2.2 htt) hd (fun H1 locs1 hr1 hL1 => ?_)
        have := kk H1 locs1 hr1 hL1
        simpa [zup] using this
      · cases hs
    · cases hs
  · -- array load
    rename_i kd j x n
    replace hs : zald kd (pc + 1) ls st h = some (.inl (pc', ls', st', h')) := hs
    obtain ⟨h20, ins, hd, hins⟩ := hlk
    unfold zald at hs
    split at hs
    · next i a st0 =>
      split at hs
      · next hk =>
        obtain ⟨rfl, rfl, rfl, e9⟩ := zgo_inj hs
        exact zw_ald hx hb hK hr hk.1 h20 hk.2 hins hd (k0 e9.symm)
      · cases hs
    · cases hs
  · -- array store
    rename_i kd j x n
    replace hs : zast kd (pc + 1) ls st h = some (.inl (pc', ls', st', h')) := hs
    obtain ⟨ins, hd, hins⟩ := hlk
    unfold zast at hs
    split at hs
    · next v i a st0 =>
      split at hs
      · next hk =>
        split at hs
        · next w hw =>
          obtain ⟨rfl, rfl, rfl, rfl⟩ := zgo_inj hs
          have hkd : 20 ≤ kd ∧ kd < 27 := by rcases hins with ⟨-, rfl⟩ | ⟨-, rfl⟩ | ⟨-, rfl⟩ | ⟨-, rfl⟩ | ⟨-, rfl⟩ <;> decide
          refine zw_ast hx hb hK hr hL hk.1 hkd.1 hkd.2 hk.2 hw hins hd (fun H1 locs1 hr1 hL1 => ?_)
          have := kk H1 locs1 hr1 hL1
          simpa [zup] using this
        · cases hs
      · cases hs
    · cases hs
  · -- aastore
    rename_i kd ko x n
    replace hs : zastq kd ko (pc + 1) ls st h = some (.inl (pc', ls', st', h')) := hs
    obtain ⟨hd, h25, h27, ci, r, rfl, hci, hc, hty⟩ := hlk
    unfold zastq at hs
    split at hs
    · next b i a st0 =>
      split at hs
      · next hk =>
        obtain ⟨rfl, rfl, rfl, rfl⟩ := zgo_inj hs
        refine zw_astq hx hb hK hr hL hk.1 (by omega) h27 hk.2.1 hci hc hty hk.2.2 hd (fun H1 locs1 hr1 hL1 => ?_)
        have := kk H1 locs1 hr1 hL1
        simpa [zup] using this
      · cases hs
    · next i a st0 =>
      split at hs
      · next hk =>
        obtain ⟨rfl, rfl, rfl, rfl⟩ := zgo_inj hs
        refine zw_astN hx hb hK hr hL hk.1 (by omega) h27 hty hk.2 hd (fun H1 locs1 hr1 hL1 => ?_)
        have := kk H1 locs1 hr1 hL1
        simpa [zup] using this
      · cases hs
    · cases hs
  · -- arraylength
    replace hs : zalen (pc + 1) ls st h = some (.inl (pc', ls', st', h')) := hs
    unfold zalen at hs
    split at hs
    · next a st0 =>
      split at hs
      · next hk =>
        obtain ⟨rfl, rfl, rfl, e9⟩ := zgo_inj hs
        exact zw_alen hx hb hK hr hk hlk (k0 e9.symm)
      · cases hs
    · cases hs
  · -- new
    rename_i kd j x n
    replace hs : znewo P kd (pc + 3) ls st h = some (.inl (pc', ls', st', h')) := hs
    obtain ⟨ci, C, T, N, index, rfl, hc, ⟨hci, hin, hinst, hini, hnms, hlen, ty0, hty0, hdef⟩, hw, hd⟩ := hlk
    unfold znewo at hs
    obtain ⟨rfl, rfl, rfl, rfl⟩ := zgo_inj hs
    rw [hlen] at kk hcells hslots
    have e1 : (znew h (ci + 1, P.2.2.2.2 (ci + 1)) N).2.1 - h.2.1 = 1 := by simp [znew]
    have e2 : (znew h (ci + 1, P.2.2.2.2 (ci + 1)) N).2.2 - h.2.2 = N := by simp [znew]
    rw [e1] at kk hcells
    rw [e2] at kk hslots
    exact zw_newo hx hb hts hown hK hr hin ty0 hty0 hc hci hlen hdef (hts _ hw) (hts _ hinst) (hts _ hini) hcells hslots hd (fun H1 hr1 => kk H1 locs hr1 hL)
  · -- new arrays
    rename_i kd j x n
    replace hs : znewa kd (pc + n) ls st h = some (.inl (pc', ls', st', h')) := hs
    unfold znewa at hs
    split at hs
    · next k st0 =>
      split at hs
      · next hk =>
        obtain ⟨rfl, rfl, rfl, rfl⟩ := zgo_inj hs
        have e1 : (znew h (kd, List.replicate k.toNatClampNeg (zel kd)) k.toNatClampNeg).2.1 - h.2.1 = 1 := by simp [znew]
        have e2 : (znew h (kd, List.replicate k.toNatClampNeg (zel kd)) k.toNatClampNeg).2.2 - h.2.2 = k.toNatClampNeg := by simp [znew]
        rw [e1] at kk hcells
        rw [e2] at kk hslots
        rcases hlk with ⟨rfl, h20, h25, atype, hty, hw, hd⟩ | ⟨rfl, h25, h27, C, index, hty, hw, hw2, hd⟩
        · refine zw_newa hx hb hK hr h20 h25 hty ?_ hk.1 hk.2 (hts _ hw) hcells hslots hd (fun H1 hr1 => kk H1 locs hr1 hL)
          rcases (show kd = 20 ∨ kd = 21 ∨ kd = 22 ∨ kd = 23 ∨ kd = 24 by omega) with rfl | rfl | rfl | rfl | rfl <;> rfl
        · exact zw_newq hx hb hown hK hr h25 h27 hty hk.1 hk.2 (hts _ hw) (hts _ hw2) hcells hslots hd (fun H1 hr1 => kk H1 locs hr1 hL)
      · cases hs
    · cases hs
  · -- Object's constructor
    replace hs : (match st with
      | .ref _ :: st' => if st'.length ≤ 4 then zgo (pc + 3) ls st' h else none
      | _ => none) = some (.inl (pc', ls', st', h')) := hs
    obtain ⟨index, hd, hw1, hw2, hw3⟩ := hlk
    split at hs
    · next a st0 =>
      split at hs
      · next hk =>
        obtain ⟨rfl, rfl, rfl, e9⟩ := zgo_inj hs
        have hcs := zcat_sum (st := st0)
        exact W.objInit hx hb hown (hts _ hw1) (hts _ hw2) (hts _ hw3) rfl (by rw [hml]; simp) rfl hd hR1 (by show 2 * 0 + _ + 12 ≤ _; omega) (k0 e9.symm)
      · cases hs
    · cases hs
  · -- switches
    rename_i i j x n
    replace hs : zswt P i j ls st h = some (.inl (pc', ls', st', h')) := hs
    unfold zswt at hs
    split at hs
    · next v st0 =>
      obtain ⟨rfl, rfl, rfl, e9⟩ := zgo_inj hs
      have k1 := k0 e9.symm
      rcases hlk with ⟨dflt, ps, len, hd, hsort, hdf, htab, hpos⟩ | ⟨dflt, lo, hi, offs, len, hd, hdf, hsz, htab, hpos⟩
      · rw [htab] at k1
        exact lv_lookup hx hb hd hsort rfl (zlook hdf ps.toList hpos) k1
      · rw [htab] at k1
        by_cases h1 : v.toInt < lo ∨ hi < v.toInt
        · refine lv_tableOut hx hb hd h1 hdf ?_
          have hnone : ((List.range offs.size).map (fun (q : Nat) => (lo + (q : Int), ((pc : Int) + offs.getD q 0).toNat))).find? (fun q => q.1 == v.toInt) = none := by
            rw [List.find?_eq_none]
            intro q hq
            obtain ⟨k, hk, rfl⟩ := List.mem_map.mp hq
            have := List.mem_range.mp hk
            simp only [beq_iff_eq]
            omega
          rw [hnone] at k1
          exact k1
        · have hlo : ¬ v.toInt < lo := fun q => h1 (Or.inl q)
          have hhi : ¬ hi < v.toInt := fun q => h1 (Or.inr q)
          have hq : (v.toInt - lo).toNat < offs.size := by omega
          have hget : offs[(v.toInt - lo).toNat]? = some (offs.getD (v.toInt - lo).toNat 0) := by
            rw [Array.getElem?_eq_getElem hq, Array.getD_eq_getD_getElem?, Array.getElem?_eq_getElem hq]
            rfl
          have hp9 : (0 : Int) ≤ (pc : Int) + offs.getD (v.toInt - lo).toNat 0 := by
            have := List.all_eq_true.mp hpos (offs.getD (v.toInt - lo).toNat 0) (by
              rw [Array.getD_eq_getD_getElem?, Array.getElem?_eq_getElem hq]
              simp)
            simpa using this
          refine lv_tableIn hx hb hd hlo hhi hget (tgt := ((pc : Int) + offs.getD (v.toInt - lo).toNat 0).toNat) (by omega) ?_
          have hsome : ((List.range offs.size).map (fun (q : Nat) => (lo + (q : Int), ((pc : Int) + offs.getD q 0).toNat))).find? (fun q => q.1 == v.toInt) = some (v.toInt, ((pc : Int) + offs.getD (v.toInt - lo).toNat 0).toNat) := by
            rw [List.find?_eq_some_iff_getElem]
            refine ⟨by simp, (v.toInt - lo).toNat, by simpa using hq, ?_, ?_⟩
            · simp
              omega
            · intro k hk
              simp
              omega
          rw [hsome] at k1
          exact k1
    · cases hs
  · -- getstatic
    rename_i i j x n
    obtain ⟨rfl, rfl, rfl, e9⟩ := zgo_inj hs
    obtain ⟨hi, index, ref, hd, hw, hsm⟩ := hlk
    exact zw_gets hx hb hown hK hr (hsv i hi) (hts _ hw) (zsame_of hts hsm) hd (k0 e9.symm)
  · -- arraycopy, Math
    rename_i o j x n
    replace hs : znat o (pc + 3) ls st h = some (.inl (pc', ls', st', h')) := hs
    obtain ⟨index, hd, hN⟩ := hlk
    have hls : c.maxLocals = ls.toArray.size := by rw [hml]; rfl
    rcases hN with ⟨rfl, hw1, hw2, hw3, hw4⟩ | ⟨rfl, hw1, hw2, hw3, hw4⟩ | ⟨rfl, hw1, hw2, hw3, hw4⟩ | ⟨rfl, hw1, hw2, hw3, hw4⟩
    · replace hs : zcopy (pc + 3) ls st h = some (.inl (pc', ls', st', h')) := hs
      unfold zcopy at hs
      split at hs
      · next n dp b sp a st0 =>
        split at hs
        · next hk =>
          obtain ⟨rfl, rfl, rfl, rfl⟩ := zgo_inj hs
          obtain ⟨g1, g2, g3, g4, g5, g6, g7, g8, g9, g10⟩ := hk
          have hcs := zcat_sum (st := st0)
          have e7 : nativeFrameWords "java/lang/System" "arraycopy" 5 = 7 := by decide +kernel
          have e8 : (st0.map fun v => v.category).sum + (nativeFrameWords "java/lang/System" "arraycopy" 5 + 11) ≤ R.locals := by omega
          refine zw_copy hx hb hK hr hL hls hown (hts _ hw1) (hts _ hw2) (hts _ hw3) (hts _ hw4) g1 g2 g4 g5 g6 g7 g8 g10 hR1 e8 hd (fun H1 locs1 hr1 hL1 => ?_)
          have := kk H1 locs1 hr1 hL1
          simpa [zup] using this
        · cases hs
      · cases hs
    · replace hs : (match st with
        | .int y :: .int x :: st' => if st'.length ≤ 4 then zgo (pc + 3) ls (.int (if x < y then y else x) :: st') h else none
        | _ => none) = some (.inl (pc', ls', st', h')) := hs
      split at hs
      · next y x st0 =>
        split at hs
        · next hk =>
          obtain ⟨rfl, rfl, rfl, e9⟩ := zgo_inj hs
          have hcs := zcat_sum (st := st0)
          exact va_mmax hx hb hls hown (hts _ hw1) (hts _ hw2) (hts _ hw3) (hts _ hw4) hR1 (by omega) (by omega) (by omega) hd (k0 e9.symm)
        · cases hs
      · cases hs
    · replace hs : (match st with
        | .int y :: .int x :: st' => if st'.length ≤ 4 then zgo (pc + 3) ls (.int (if y < x then y else x) :: st') h else none
        | _ => none) = some (.inl (pc', ls', st', h')) := hs
      split at hs
      · next y x st0 =>
        split at hs
        · next hk =>
          obtain ⟨rfl, rfl, rfl, e9⟩ := zgo_inj hs
          have hcs := zcat_sum (st := st0)
          exact va_mmin hx hb hls hown (hts _ hw1) (hts _ hw2) (hts _ hw3) (hts _ hw4) hR1 (by omega) (by omega) (by omega) hd (k0 e9.symm)
        · cases hs
      · cases hs
    · replace hs : (match st with
        | .long x :: st' => if st'.length ≤ 4 then zgo (pc + 3) ls (.long (if 0 < x then x else -x) :: st') h else none
        | _ => none) = some (.inl (pc', ls', st', h')) := hs
      split at hs
      · next x st0 =>
        split at hs
        · next hk =>
          obtain ⟨rfl, rfl, rfl, e9⟩ := zgo_inj hs
          have hcs := zcat_sum (st := st0)
          exact va_mabs_long hx hb hls hown (hts _ hw1) (hts _ hw2) (hts _ hw3) (hts _ hw4) hR1 (by omega) (by omega) (by omega) hd (k0 e9.symm)
        · cases hs
      · cases hs
  · cases hlk
end ZGO
