/-! What a resolved instruction has to do with the bytes and the tables. -/
/-- words that hold of any later tables -/
def zgw (w : Cond) : Bool := goodWord w || (match w with
  | .castable _ _ => true
  | .declares _ => true
  | .methodLinkNest _ _ _ _ => true
  | .arrayOver (.object _) => true
  | _ => false)
theorem zgw_at {args a' : Array Value} {s U : State} {w : Cond} (hW : s.WarmedH U.vm) (hg : zgw w = true) (h : w.before args s = true) : w.before a' U = true := by
  unfold zgw at hg
  rw [Bool.or_eq_true] at hg
  rcases hg with hg | hg
  · exact word_at hW (good_of_word hg) h
  · have h0 : ∀ {c : Cond}, c.onTables = true → c.before args s = true → c.before args (s.setVm U.vm) = true → c.before a' U = true := fun {c} hc _ h2 => va_tabs hc (rfl : (s.setVm U.vm).vm = U.vm) h2
    cases w with
    | castable a b => exact h0 rfl h (by rw [Cond.castable_setVm hW.alike]; exact h)
    | declares y => exact h0 rfl h (by rw [Cond.declares_setVm hW.alike]; exact h)
    | methodLinkNest a i y b => exact va_Nw.use rfl (va_Nw.warmM hW (va_Nw.of rfl h))
    | arrayOver t =>
      cases t with
      | object n => exact va_AO.use (va_AO.moved hW.alike (va_AO.of h))
      | _ => cases hg
    | _ => cases hg
/-- the field types by number -/
def ztyF (t : Nat) (ty : FieldType) : Prop := (t = 0 ∧ ty = .int) ∨ (t = 1 ∧ ty = .long) ∨ (t = 4 ∧ ∃ n, ty = .object n) ∨ (t = 4 ∧ ∃ n, ty = .array n) ∨ (t = 5 ∧ ty = .boolean) ∨ (t = 6 ∧ ty = .byte) ∨ (t = 7 ∧ ty = .char)
/-- a kind of objects: its class, laid as the tables say -/
def zkind (P : zProg) (zW : List Cond) (C : String) (T : u_T) (N ci : Nat) : Prop :=
  ci < 19 ∧ (∀ w ∈ u_ws C T N, w ∈ zW) ∧ Cond.instantiable C N ∈ zW ∧ Cond.initialized C ∈ zW ∧ (∀ a, a < N → ∀ b, b < N → a ≠ b → (T a).2.1 ≠ (T b).2.1) ∧ (P.2.2.2.2 (ci + 1)).length = N ∧
  ∃ ty0 : Nat → FieldType, (∀ k, k < N → parseFieldDescriptor (T k).2.2.1 = some (ty0 k)) ∧ ∀ j, j < N → defaultValue (ty0 j) = vp_V (P.2.2.2.2 (ci + 1)) j
def zsame (zW : List Cond) (ref O n d : String) : Prop := ref = O ∨ Cond.sameField ref O n d ∈ zW
def zcc : Nat → ClassFile.Cond
  | 0 => .eq
  | 1 => .ne
  | 2 => .lt
  | 3 => .ge
  | 4 => .gt
  | _ => .le
def zlkN (zW : List Cond) (own : String) (index o : Nat) : Prop :=
  (o = 0 ∧ Cond.methodLink own index arraycopyName ∈ zW ∧ Cond.native arraycopyName ∈ zW ∧ Cond.static arraycopyName ∈ zW ∧ Cond.initialized "java/lang/System" ∈ zW) ∨
  (o = 1 ∧ Cond.methodLink own index Lib.Math.max.name ∈ zW ∧ Cond.static Lib.Math.max.name ∈ zW ∧ Cond.initialized "java/lang/Math" ∈ zW ∧ Cond.code Lib.Math.max.name Lib.Math.max.code 2 (some .int) ∈ zW) ∨
  (o = 2 ∧ Cond.methodLink own index Lib.Math.min.name ∈ zW ∧ Cond.static Lib.Math.min.name ∈ zW ∧ Cond.initialized "java/lang/Math" ∈ zW ∧ Cond.code Lib.Math.min.name Lib.Math.min.code 2 (some .int) ∈ zW) ∨
  (o = 3 ∧ Cond.methodLink own index Lib.MathLoose.abs_long.x ∈ zW ∧ Cond.static Lib.MathLoose.abs_long.x ∈ zW ∧ Cond.initialized "java/lang/Math" ∈ zW ∧ Cond.code Lib.MathLoose.abs_long.x Lib.MathLoose.abs_long.code 2 (some .long) ∈ zW)
def zlkI (P : zProg) (zW : List Cond) (cl : List vw_C) (ss : Nat → String × String × String) (own nm : String) (cc : ByteArray) (pc : Nat) (I : zI) : Prop :=
  match I with
  | (0, _, _, x, n) => (∃ q, decode cc pc = .ok (.iconst q, 1) ∧ n = 1 ∧ Int32.ofInt q = Int32.ofInt x) ∨ (∃ q, decode cc pc = .ok (.bipush q, 2) ∧ n = 2 ∧ (Int8.ofInt q).toInt32 = Int32.ofInt x) ∨ (∃ q, decode cc pc = .ok (.sipush q, 3) ∧ n = 3 ∧ (Int16.ofInt q).toInt32 = Int32.ofInt x) ∨
      (∃ q, decode cc pc = .ok (.ldc q, 2) ∧ n = 2 ∧ Cond.constant own q (Int32.ofInt x) ∈ zW) ∨ (∃ q, decode cc pc = .ok (.ldc_w q, 3) ∧ n = 3 ∧ Cond.constant own q (Int32.ofInt x) ∈ zW)
  | (1, _, _, _, n) => decode cc pc = .ok (.aconst_null, 1) ∧ n = 1
  | (2, _, _, x, n) => (∃ q : Fin 2, decode cc pc = .ok (.lconst q, 1) ∧ n = 1 ∧ Int64.ofNat (q : Nat) = Int64.ofInt x) ∨ (∃ q, decode cc pc = .ok (.ldc2_w q, 3) ∧ n = 3 ∧ Cond.constantLong own q (Int64.ofInt x) ∈ zW)
  | (3, _, _, _, n) => decode cc pc = .ok (.fconst 0, 1) ∧ n = 1
  | (4, i, t, _, n) => (t = 0 ∧ ((∃ q : Fin 4, decode cc pc = .ok (.iload_n q, 1) ∧ (q : Nat) = i ∧ n = 1) ∨ (decode cc pc = .ok (.iload i, 2) ∧ n = 2))) ∨ (t = 1 ∧ ((∃ q : Fin 4, decode cc pc = .ok (.lload_n q, 1) ∧ (q : Nat) = i ∧ n = 1) ∨ (decode cc pc = .ok (.lload i, 2) ∧ n = 2))) ∨
      (t = 2 ∧ ((∃ q : Fin 4, decode cc pc = .ok (.fload_n q, 1) ∧ (q : Nat) = i ∧ n = 1) ∨ (decode cc pc = .ok (.fload i, 2) ∧ n = 2))) ∨ (t = 3 ∧ ((∃ q : Fin 4, decode cc pc = .ok (.dload_n q, 1) ∧ (q : Nat) = i ∧ n = 1) ∨ (decode cc pc = .ok (.dload i, 2) ∧ n = 2))) ∨
      (t = 4 ∧ ((∃ q : Fin 4, decode cc pc = .ok (.aload_n q, 1) ∧ (q : Nat) = i ∧ n = 1) ∨ (decode cc pc = .ok (.aload i, 2) ∧ n = 2)))
  | (5, i, t, _, n) => (t = 0 ∧ ((∃ q : Fin 4, decode cc pc = .ok (.istore_n q, 1) ∧ (q : Nat) = i ∧ n = 1) ∨ (decode cc pc = .ok (.istore i, 2) ∧ n = 2))) ∨ (t = 4 ∧ ((∃ q : Fin 4, decode cc pc = .ok (.astore_n q, 1) ∧ (q : Nat) = i ∧ n = 1) ∨ (decode cc pc = .ok (.astore i, 2) ∧ n = 2))) ∨
      (t = 2 ∧ decode cc pc = .ok (.fstore i, 2) ∧ n = 2) ∨ (t = 3 ∧ decode cc pc = .ok (.dstore i, 2) ∧ n = 2)
  | (6, i, _, x, n) => decode cc pc = .ok (.iinc i x, 3) ∧ n = 3
  | (7, o, _, _, n) => n = 1 ∧ ((o = 0 ∧ decode cc pc = .ok (.iadd, 1)) ∨ (o = 1 ∧ decode cc pc = .ok (.isub, 1)) ∨ (o = 2 ∧ decode cc pc = .ok (.imul, 1)) ∨ (o = 3 ∧ decode cc pc = .ok (.iand, 1)) ∨ (o = 4 ∧ decode cc pc = .ok (.ior, 1)) ∨ (o = 5 ∧ decode cc pc = .ok (.ixor, 1)) ∨
      (o = 6 ∧ decode cc pc = .ok (.ishl, 1)) ∨ (o = 7 ∧ decode cc pc = .ok (.ishr, 1)) ∨ (o = 8 ∧ decode cc pc = .ok (.idiv, 1)) ∨ (o = 9 ∧ decode cc pc = .ok (.irem, 1)) ∨ (o = 10 ∧ decode cc pc = .ok (.iushr, 1)))
  | (8, o, _, _, n) => n = 1 ∧ ((o = 0 ∧ decode cc pc = .ok (.ladd, 1)) ∨ (o = 1 ∧ decode cc pc = .ok (.lsub, 1)) ∨ (o = 2 ∧ decode cc pc = .ok (.ldiv, 1)) ∨ (o = 3 ∧ decode cc pc = .ok (.lrem, 1)))
  | (9, o, _, _, n) => n = 1 ∧ ((o = 0 ∧ decode cc pc = .ok (.ineg, 1)) ∨ (o = 1 ∧ decode cc pc = .ok (.i2l, 1)) ∨ (o = 2 ∧ decode cc pc = .ok (.l2i, 1)) ∨ (o = 3 ∧ decode cc pc = .ok (.i2c, 1)) ∨ (o = 4 ∧ decode cc pc = .ok (.i2b, 1)) ∨ (o = 5 ∧ decode cc pc = .ok (.i2d, 1)) ∨ (o = 6 ∧ decode cc pc = .ok (.i2f, 1)) ∨ (o = 7 ∧ decode cc pc = .ok (.f2d, 1)) ∨ (o = 8 ∧ decode cc pc = .ok (.lneg, 1)))
  | (10, o, _, _, n) => n = 1 ∧ ((o = 0 ∧ decode cc pc = .ok (.lcmp, 1)) ∨ (o = 1 ∧ decode cc pc = .ok (.dcmp .l, 1)) ∨ (o = 2 ∧ decode cc pc = .ok (.fcmp .l, 1)) ∨ (o = 3 ∧ decode cc pc = .ok (.ddiv, 1)) ∨ (o = 4 ∧ decode cc pc = .ok (.fdiv, 1)))
  | (11, o, _, _, n) => n = 1 ∧ ((o = 0 ∧ decode cc pc = .ok (.dup, 1)) ∨ (o = 1 ∧ decode cc pc = .ok (.dup_x1, 1)) ∨ (o = 2 ∧ decode cc pc = .ok (.dup_x2, 1)) ∨ (o = 3 ∧ decode cc pc = .ok (.dup2, 1)) ∨ (o = 4 ∧ decode cc pc = .ok (.pop, 1)))
  | (12, o, j, _, _) => o < 6 ∧ ∃ off, decode cc pc = .ok (.ifCond (zcc o) off, 3) ∧ (pc : Int) + off = (j : Int)
  | (13, o, j, _, _) => o < 6 ∧ ∃ off, decode cc pc = .ok (.if_icmp (zcc o) off, 3) ∧ (pc : Int) + off = (j : Int)
  | (14, o, j, _, _) => ∃ off, ((o = 0 ∧ decode cc pc = .ok (.ifnull off, 3)) ∨ (o = 1 ∧ decode cc pc = .ok (.ifnonnull off, 3))) ∧ (pc : Int) + off = (j : Int)
  | (15, _, j, _, _) => ∃ off, decode cc pc = .ok (.goto off, 3) ∧ (pc : Int) + off = (j : Int)
  | (16, kd, j, _, _) => ∃ (ci : Nat) (C : String) (T : u_T) (N index : Nat) (ref : String), kd = ci + 1 ∧ cl[ci]? = some (C, T, N) ∧ j < N ∧ zkind P zW C T N ci ∧ Cond.fieldLink own index ref (T j).2.1 (T j).2.2.1 ∈ zW ∧ zsame zW ref (T j).1 (T j).2.1 (T j).2.2.1 ∧ decode cc pc = .ok (.getfield index, 3)
  | (17, kd, j, x, _) => ∃ (ci : Nat) (C : String) (T : u_T) (N index : Nat) (ref : String), kd = ci + 1 ∧ cl[ci]? = some (C, T, N) ∧ j < N ∧ zkind P zW C T N ci ∧ Cond.fieldLink own index ref (T j).2.1 (T j).2.2.1 ∈ zW ∧ zsame zW ref (T j).1 (T j).2.1 (T j).2.2.1 ∧
      ((T j).2.2.2 = true → nm = "<init>" ∧ (T j).1 = own) ∧ (∃ ty, parseFieldDescriptor (T j).2.2.1 = some ty ∧ ztyF x.toNat ty) ∧ decode cc pc = .ok (.putfield index, 3)
  | (18, kd, _, _, _) => 20 ≤ kd ∧ ∃ ins, decode cc pc = .ok (ins, 1) ∧ ((ins = .iaload ∧ ztyK kd = .int) ∨ (ins = .caload ∧ ztyK kd = .char) ∨ (ins = .laload ∧ ztyK kd = .long) ∨ (ins = .daload ∧ ztyK kd = .double) ∨ (ins = .baload ∧ ztyK kd = .byte) ∨ (ins = .aaload ∧ (ztyK kd).isReference = true))
  | (19, kd, _, _, _) => ∃ ins, decode cc pc = .ok (ins, 1) ∧ ((ins = .iastore ∧ kd = 20) ∨ (ins = .castore ∧ kd = 21) ∨ (ins = .lastore ∧ kd = 22) ∨ (ins = .dastore ∧ kd = 23) ∨ (ins = .bastore ∧ kd = 24))
  | (20, kd, ko, _, _) => decode cc pc = .ok (.aastore, 1) ∧ 25 ≤ kd ∧ kd < 27 ∧ ∃ (ci : Nat) (r : vw_C), ko = ci + 1 ∧ ci < 19 ∧ cl[ci]? = some r ∧ ztyK kd = .object r.1
  | (21, _, _, _, _) => decode cc pc = .ok (.arraylength, 1)
  | (22, kd, _, _, _) => ∃ (ci : Nat) (C : String) (T : u_T) (N index : Nat), kd = ci + 1 ∧ cl[ci]? = some (C, T, N) ∧ zkind P zW C T N ci ∧ Cond.classLink own index C ∈ zW ∧ decode cc pc = .ok (.new index, 3)
  | (23, kd, _, _, n) => (n = 2 ∧ 20 ≤ kd ∧ kd < 25 ∧ ∃ atype, newarray.typeOf atype = ztyK kd ∧ Cond.arrayClass (newarray.typeOf atype) ∈ zW ∧ decode cc pc = .ok (.newarray atype, 2)) ∨
      (n = 3 ∧ 25 ≤ kd ∧ kd < 27 ∧ ∃ (C : String) (index : Nat), ztyK kd = .object C ∧ Cond.classLink own index C ∈ zW ∧ Cond.arrayOver (.object C) ∈ zW ∧ decode cc pc = .ok (.anewarray index, 3))
  | (25, _, _, _, _) => ∃ index, decode cc pc = .ok (.invokespecial index, 3) ∧ Cond.methodLink own index objectInit ∈ zW ∧ Cond.instanceMethod objectInit ∈ zW ∧ Cond.code objectInit ⟨#[0xb1]⟩ 1 none ∈ zW
  | (29, i, j, _, _) => (∃ (dflt : Int) (ps : Array (Int × Int)) (len : Nat), decode cc pc = .ok (.lookupswitch dflt ps, len) ∧ (ps.toList.zip (ps.toList.drop 1)).all (fun (a, next) => a.1 < next.1) = true ∧ (pc : Int) + dflt = (j : Int) ∧ (P.2.2.2.1 i) = ps.toList.map (fun q => (q.1, ((pc : Int) + q.2).toNat)) ∧ ps.toList.all (fun q => decide (0 ≤ (pc : Int) + q.2)) = true) ∨
      (∃ (dflt lo hi : Int) (offs : Array Int) (len : Nat), decode cc pc = .ok (.tableswitch dflt lo hi offs, len) ∧ (pc : Int) + dflt = (j : Int) ∧ (offs.size : Int) = hi - lo + 1 ∧ (P.2.2.2.1 i) = (List.range offs.size).map (fun (q : Nat) => (lo + (q : Int), ((pc : Int) + offs.getD q 0).toNat)) ∧ offs.toList.all (fun q => decide (0 ≤ (pc : Int) + q)) = true)
  | (30, i, _, _, _) => i < 4 ∧ ∃ (index : Nat) (ref : String), decode cc pc = .ok (.getstatic index, 3) ∧ Cond.fieldLink own index ref (ss i).2.1 (ss i).2.2 ∈ zW ∧ zsame zW ref (ss i).1 (ss i).2.1 (ss i).2.2
  | (31, o, _, _, _) => ∃ index, decode cc pc = .ok (.invokestatic index, 3) ∧ zlkN zW own index o
  | _ => False
