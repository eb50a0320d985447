/-! A method's instructions held against its bytes and the tables by one evaluation. -/
/-- (tag, place in the class's pool, a, b, x) -/
abbrev zE : Type := Nat × Nat × Nat × Nat × Int
/-- each method's own class (a number), the classes' names, their entries, the methods' numbers of parameters, whether a constructor -/
abbrev zT : Type := (Nat → Nat) × (Nat → String) × (Nat → List zE) × (Nat → Nat) × (Nat → Bool)
def zmeanC (P : zProg) (L : zL) (zW : List Jvm.Cond) (cl : List vw_C) (own : String) (idx k' md kd : Nat) : Prop :=
  match md with
  | 0 => ∃ ci T N, kd = ci + 1 ∧ ci < 19 ∧ cl[ci]? = some ((L.1 k').cls, T, N) ∧ L.2.2.2.1 k' = [] ∧ Cond.methodLink own idx (L.1 k') ∈ zW ∧ Cond.instanceMethod (L.1 k') ∈ zW ∧ Cond.selects (L.1 k').cls (L.1 k') (L.1 k') ∈ zW
  | 1 => L.2.2.2.1 k' = [] ∧ Cond.methodLink own idx (L.1 k') ∈ zW ∧ Cond.static (L.1 k') ∈ zW
  | 2 => ∃ host, L.2.2.2.1 k' = [] ∧ Cond.methodLinkNest own idx (L.1 k') host ∈ zW ∧ Cond.static (L.1 k') ∈ zW
  | 3 => L.2.2.2.1 k' ≠ [] ∧ Cond.methodLink own idx (L.1 k') ∈ zW ∧ Cond.static (L.1 k') ∈ zW
  | 4 => kd ≠ 0 ∧ L.2.2.2.1 k' = [] ∧ L.2.2.1 k' = none ∧ (L.1 k').name = "<init>" ∧ Cond.methodLink own idx (L.1 k') ∈ zW ∧ Cond.instanceMethod (L.1 k') ∈ zW
  | 5 => ∃ ci C T N, kd = ci + 1 ∧ ci < 19 ∧ cl[ci]? = some (C, T, N) ∧ L.2.2.2.1 k' = [] ∧ (L.1 k').name ≠ "<init>" ∧ Cond.methodLink own idx (L.1 k') ∈ zW ∧ Cond.sameMethod (L.1 k').cls (L.1 k').cls (L.1 k').name (L.1 k').desc ∈ zW ∧ Cond.superclass own (L.1 k').cls ∈ zW ∧ Cond.instanceMethod (L.1 k') ∈ zW
  | 6 => ∃ ci C T N, kd = ci + 1 ∧ ci < 19 ∧ cl[ci]? = some (C, T, N) ∧ L.2.2.2.1 k' = [] ∧ Cond.methodLink own idx (L.1 k') ∈ zW ∧ Cond.sameMethod (L.1 k').cls (L.1 k').cls (L.1 k').name (L.1 k').desc ∈ zW ∧ Cond.selects C (L.1 k') (L.1 k') ∈ zW ∧ Cond.instanceMethod (L.1 k') ∈ zW
  | _ => False
/-- what an entry says -/
def zmean (P : zProg) (L : zL) (zW : List Jvm.Cond) (cl : List vw_C) (G : zG) (ss : Nat → String × String × String) (np : Nat → Nat) (own : String) (e : zE) : Prop :=
  match e with
  | (1, idx, k', md, kd) => (k' < L.2.2.2.2.2 ∧ zcw P L k' ∈ zW ∧ ((L.1 k').cls ≠ "java/lang/invoke/MethodHandle" ∧ (L.1 k').cls ≠ "java/lang/invoke/VarHandle") ∧ Cond.initialized (L.1 k').cls ∈ zW ∧ (parseMethodDescriptor (L.1 k').desc).map (fun d => d.parameters.length) = some (np k')) ∧ zmeanC P L zW cl own idx k' md kd.toNat
  | (3, idx, kd, j, _) => ∃ (ci : Nat) (C : String) (T : u_T) (N : Nat) (ref : String), kd = ci + 1 ∧ cl[ci]? = some (C, T, N) ∧ j < N ∧ zkind P zW C T N ci ∧ Cond.fieldLink own idx ref (T j).2.1 (T j).2.2.1 ∈ zW ∧ zsame zW ref (T j).1 (T j).2.1 (T j).2.2.1
  | (13, idx, kd, j, x) => ∃ (ci : Nat) (C : String) (T : u_T) (N : Nat) (ref : String), kd = ci + 1 ∧ cl[ci]? = some (C, T, N) ∧ j < N ∧ zkind P zW C T N ci ∧ Cond.fieldLink own idx ref (T j).2.1 (T j).2.2.1 ∈ zW ∧ zsame zW ref (T j).1 (T j).2.1 (T j).2.2.1 ∧ (T j).2.2.2 = false ∧ ∃ ty, parseFieldDescriptor (T j).2.2.1 = some ty ∧ ztyF x.toNat ty
  | (14, idx, kd, j, x) => ∃ (ci : Nat) (C : String) (T : u_T) (N : Nat) (ref : String), kd = ci + 1 ∧ cl[ci]? = some (C, T, N) ∧ j < N ∧ zkind P zW C T N ci ∧ Cond.fieldLink own idx ref (T j).2.1 (T j).2.2.1 ∈ zW ∧ zsame zW ref (T j).1 (T j).2.1 (T j).2.2.1 ∧ (T j).1 = own ∧ ∃ ty, parseFieldDescriptor (T j).2.2.1 = some ty ∧ ztyF x.toNat ty
  | (4, idx, kd, _, _) => ∃ (ci : Nat) (C : String) (T : u_T) (N : Nat), kd = ci + 1 ∧ cl[ci]? = some (C, T, N) ∧ zkind P zW C T N ci ∧ Cond.classLink own idx C ∈ zW
  | (5, idx, kd, _, _) => 25 ≤ kd ∧ kd < 27 ∧ ∃ C : String, ztyK kd = .object C ∧ Cond.classLink own idx C ∈ zW ∧ Cond.arrayOver (.object C) ∈ zW
  | (6, idx, _, _, x) => Cond.constant own idx (Int32.ofInt x) ∈ zW
  | (7, idx, _, _, x) => Cond.constantLong own idx (Int64.ofInt x) ∈ zW
  | (8, idx, _, _, _) => Cond.methodLink own idx objectInit ∈ zW ∧ Cond.instanceMethod objectInit ∈ zW ∧ Cond.code objectInit ⟨#[0xb1]⟩ 1 none ∈ zW
  | (9, idx, i, _, _) => i < 4 ∧ ∃ ref : String, Cond.fieldLink own idx ref (ss i).2.1 (ss i).2.2 ∈ zW ∧ zsame zW ref (ss i).1 (ss i).2.1 (ss i).2.2
  | (10, is, ik, ic, x) => ∃ (ix : Nat) (rx : ByteArray) (text Y0 : String) (names : List String), (decode rx 0 = .ok (.aload_n 0, 1) ∧ decode rx 1 = .ok (.aload_n 1, 1) ∧ decode rx 2 = .ok (.invokespecial ix, 3) ∧ decode rx 5 = .ok (.return_, 1) ∧ Bundle.fit Y0 = true) ∧ Bundle.fit (L.2.2.2.2.1 x.toNat) = true ∧ (∀ n ∈ names, Bundle.fit n = true) ∧ names.length ≤ 2 ∧ Cond.classLink own ik (L.2.2.2.2.1 x.toNat) ∈ zW ∧ Cond.initialized (L.2.2.2.2.1 x.toNat) ∈ zW ∧ (∀ w ∈ zxS own ic (L.2.2.2.2.1 x.toNat) ix rx Y0 names, w ∈ zW ∧ vx_ot w = true) ∧ ∃ sa, vk_R own is text sa G.2.2
  | (15, kd, _, _, _) => Cond.arrayClass (newarray.typeOf (match kd with | 20 => .int | 21 => .char | 22 => .long | 23 => .double | _ => .byte)) ∈ zW
  | (16, kd, ko, _, _) => 25 ≤ kd ∧ kd < 27 ∧ ∃ (ci : Nat) (r : vw_C), ko = ci + 1 ∧ ci < 19 ∧ cl[ci]? = some r ∧ ztyK kd = .object r.1
  | (11, idx, o, _, _) => zlkN zW own idx o
  | _ => False
/-- an entry of that tag at that place that says (a, b, x) -/
def zhas (t i a b : Nat) (x : Int) (T : List zE) : Bool := match T with
  | [] => false
  | e :: r => bif Nat.beq e.2.1 i then (bif Nat.beq e.1 t then decide (e = (t, i, a, b, x)) else zhas t i a b x r) else zhas t i a b x r
theorem zhas_mem {t i a b : Nat} {x : Int} {T : List zE} (h : zhas t i a b x T = true) : (t, i, a, b, x) ∈ T := by
  induction T with
  | nil => cases h
  | cons e r ih =>
    unfold zhas at h
    cases h1 : Nat.beq e.2.1 i with
    | false =>
      rw [h1] at h
      exact List.mem_cons_of_mem _ (ih h)
    | true =>
      rw [h1] at h
      cases h2 : Nat.beq e.1 t with
      | false =>
        rw [h2] at h
        exact List.mem_cons_of_mem _ (ih h)
      | true =>
        rw [h2] at h
        have h3 : e = (t, i, a, b, x) := of_decide_eq_true h
        rw [h3]
        exact List.mem_cons_self
def zckN (pc : Nat) (j : Nat) (off : Int) : Bool := decide ((pc : Int) + off = (j : Int))
theorem zckN_ok {pc j : Nat} {off : Int} (h : zckN pc j off = true) : (pc : Int) + off = (j : Int) := of_decide_eq_true h
abbrev zD : Type := Except DecodeError (Instr × Nat)
def zdis (d : zD) (ins : Instr) (n : Nat) : Bool := decide (d = .ok (ins, n))
theorem zdis_ok {d : zD} {ins : Instr} {n : Nat} (h : zdis d ins n = true) : d = .ok (ins, n) := of_decide_eq_true h
def zbinI : Nat → Instr
  | 0 => .iadd | 1 => .isub | 2 => .imul | 3 => .iand | 4 => .ior | 5 => .ixor | 6 => .ishl | 7 => .ishr | 8 => .idiv | 9 => .irem | _ => .iushr
def zlbinI : Nat → Instr
  | 0 => .ladd | 1 => .lsub | 2 => .ldiv | _ => .lrem
def zunI : Nat → Instr
  | 0 => .ineg | 1 => .i2l | 2 => .l2i | 3 => .i2c | 4 => .i2b | 5 => .i2d | 6 => .i2f | 7 => .f2d | _ => .lneg
def zcmpI : Nat → Instr
  | 0 => .lcmp | 1 => .dcmp .l | 2 => .fcmp .l | 3 => .ddiv | _ => .fdiv
def zstkI : Nat → Instr
  | 0 => .dup | 1 => .dup_x1 | 2 => .dup_x2 | 3 => .dup2 | _ => .pop
def zaldI : Nat → Instr
  | 20 => .iaload | 21 => .caload | 22 => .laload | 23 => .daload | 24 => .baload | 25 => .aaload | 26 => .aaload | 27 => .baload | _ => .iaload
def zastI : Nat → Instr
  | 20 => .iastore | 21 => .castore | 22 => .lastore | 23 => .dastore | _ => .bastore
def zatI : Nat → ArrayType
  | 20 => .int | 21 => .char | 22 => .long | 23 => .double | _ => .byte
def zld_n : Nat → Fin 4 → Instr
  | 0, q => .iload_n q | 1, q => .lload_n q | 2, q => .fload_n q | 3, q => .dload_n q | _, q => .aload_n q
def zld_w : Nat → Nat → Instr
  | 0, q => .iload q | 1, q => .lload q | 2, q => .fload q | 3, q => .dload q | _, q => .aload q
def zst_n : Nat → Fin 4 → Instr
  | 0, q => .istore_n q | _, q => .astore_n q
def zst_w : Nat → Nat → Instr
  | 0, q => .istore q | 2, q => .fstore q | 3, q => .dstore q | _, q => .astore q
def zc0 (d : zD) (T : List zE) (x : Int) (n : Nat) : Bool :=
  match d with
  | .ok (.iconst q, 1) => n == 1 && decide (Int32.ofInt q = Int32.ofInt x)
  | .ok (.bipush q, 2) => n == 2 && decide ((Int8.ofInt q).toInt32 = Int32.ofInt x)
  | .ok (.sipush q, 3) => n == 3 && decide ((Int16.ofInt q).toInt32 = Int32.ofInt x)
  | .ok (.ldc q, 2) => n == 2 && zhas 6 q 0 0 x T
  | .ok (.ldc_w q, 3) => n == 3 && zhas 6 q 0 0 x T
  | _ => false
def zc2 (d : zD) (T : List zE) (x : Int) (n : Nat) : Bool :=
  match d with
  | .ok (.lconst q, 1) => n == 1 && decide (Int64.ofNat (q : Nat) = Int64.ofInt x)
  | .ok (.ldc2_w q, 3) => n == 3 && zhas 7 q 0 0 x T
  | _ => false
/-- a load: the short form where the index is below 4, or the long one -/
def zc4 (d : zD) (i t n : Nat) : Bool := decide (t < 5) && ((n == 1 && (if h : i < 4 then zdis d (zld_n t ⟨i, h⟩) 1 else false)) || (n == 2 && zdis d (zld_w t i) 2))
def zc5 (d : zD) (i t n : Nat) : Bool := (decide (t = 0 ∨ t = 4) && n == 1 && (if h : i < 4 then zdis d (zst_n t ⟨i, h⟩) 1 else false)) || (decide (t = 0 ∨ t = 4 ∨ t = 2 ∨ t = 3) && n == 2 && zdis d (zst_w t i) 2)
def zc12 (d : zD) (pc o j : Nat) : Bool :=
  match d with
  | .ok (.ifCond cnd off, 3) => decide (o < 6) && decide (cnd = zcc o) && zckN pc j off
  | _ => false
def zc13 (d : zD) (pc o j : Nat) : Bool :=
  match d with
  | .ok (.if_icmp cnd off, 3) => decide (o < 6) && decide (cnd = zcc o) && zckN pc j off
  | _ => false
def zc14 (d : zD) (pc o j : Nat) : Bool :=
  match d with
  | .ok (.ifnull off, 3) => decide (o = 0) && zckN pc j off
  | .ok (.ifnonnull off, 3) => decide (o = 1) && zckN pc j off
  | _ => false
def zc15 (d : zD) (pc j : Nat) : Bool :=
  match d with
  | .ok (.goto off, 3) => zckN pc j off
  | _ => false
def zc16 (d : zD) (T : List zE) (kd j : Nat) : Bool :=
  match d with
  | .ok (.getfield q, 3) => zhas 3 q kd j 0 T
  | _ => false
def zc17 (d : zD) (ini : Bool) (T : List zE) (kd j : Nat) (x : Int) : Bool :=
  match d with
  | .ok (.putfield q, 3) => zhas 13 q kd j x T || (ini && zhas 14 q kd j x T)
  | _ => false
def zc22 (d : zD) (T : List zE) (kd : Nat) : Bool :=
  match d with
  | .ok (.new q, 3) => zhas 4 q kd 0 0 T
  | _ => false
def zc23 (d : zD) (T : List zE) (kd n : Nat) : Bool :=
  match d with
  | .ok (.newarray a, 2) => n == 2 && decide (20 ≤ kd) && decide (kd < 25) && decide (zatI kd = a) && zhas 15 kd 0 0 0 T
  | .ok (.anewarray q, 3) => n == 3 && zhas 5 q kd 0 0 T
  | _ => false
def zc24 (d : zD) (np : Nat → Nat) (T : List zE) (i j : Nat) (x : Int) : Bool :=
  match d with
  | .ok (.invokevirtual q, 3) => (zhas 1 q i 0 x T || zhas 1 q i 6 x T) && j == np i + 1
  | .ok (.invokestatic q, 3) => (zhas 1 q i 1 x T || zhas 1 q i 2 x T || zhas 1 q i 3 x T) && j == np i
  | .ok (.invokespecial q, 3) => (zhas 1 q i 4 x T || zhas 1 q i 5 x T) && j == np i + 1
  | _ => false
def zc25 (d : zD) (T : List zE) : Bool :=
  match d with
  | .ok (.invokespecial q, 3) => zhas 8 q 0 0 0 T
  | _ => false
def zc26 (d : zD) (ret : Option FieldType) (t : Nat) : Bool :=
  match t, ret with
  | 0, some .int => zdis d .ireturn 1
  | 5, some .boolean => zdis d .ireturn 1
  | 7, some .char => zdis d .ireturn 1
  | 1, some .long => zdis d .lreturn 1
  | 2, some .float => zdis d .freturn 1
  | 3, some .double => zdis d .dreturn 1
  | 4, some (.object _) => zdis d .areturn 1
  | 4, some (.array _) => zdis d .areturn 1
  | _, _ => false
def zc28 (cc : ByteArray) (T : List zE) (pc E : Nat) : Bool :=
  match decode cc pc, decode cc (pc + 3), decode cc (pc + 4) with
  | .ok (.new q, 3), .ok (.dup, 1), .ok (.ldc s, 2) => (match decode cc (pc + 6) with
    | .ok (.invokespecial c, 3) => zhas 10 s q c (E : Int) T && zdis (decode cc (pc + 9)) .athrow 1
    | _ => false)
  | .ok (.new q, 3), .ok (.dup, 1), .ok (.ldc_w s, 3) => (match decode cc (pc + 7) with
    | .ok (.invokespecial c, 3) => zhas 10 s q c (E : Int) T && zdis (decode cc (pc + 10)) .athrow 1
    | _ => false)
  | _, _, _ => false
def zc29 (d : zD) (tab : List (Int × Nat)) (pc j : Nat) : Bool :=
  match d with
  | .ok (.lookupswitch dflt ps, _) => (ps.toList.zip (ps.toList.drop 1)).all (fun (a, next) => a.1 < next.1) && zckN pc j dflt && decide (tab = ps.toList.map (fun q => (q.1, ((pc : Int) + q.2).toNat))) && ps.toList.all (fun q => decide (0 ≤ (pc : Int) + q.2))
  | .ok (.tableswitch dflt lo hi offs, _) => zckN pc j dflt && decide ((offs.size : Int) = hi - lo + 1) && decide (tab = (List.range offs.size).map (fun (q : Nat) => (lo + (q : Int), ((pc : Int) + offs.getD q 0).toNat))) && offs.toList.all (fun q => decide (0 ≤ (pc : Int) + q))
  | _ => false
def zc30 (d : zD) (T : List zE) (i : Nat) : Bool :=
  match d with
  | .ok (.getstatic q, 3) => zhas 9 q i 0 0 T
  | _ => false
def zc31 (d : zD) (T : List zE) (o : Nat) : Bool :=
  match d with
  | .ok (.invokestatic q, 3) => zhas 11 q o 0 0 T
  | _ => false
/-- the instruction's check; sw: the switches' tables, np: parameters, ini: a constructor, cc: the bytes, ret: the return type, h0: no handlers -/
def zck (sw : Nat → List (Int × Nat)) (np : Nat → Nat) (ini : Bool) (cc : ByteArray) (ret : Option FieldType) (h0 : Bool) (T : List zE) (pc : Nat) (I : zI) : Bool :=
  match I with
  | (0, _, _, x, n) => zc0 (decode cc pc) T x n
  | (1, _, _, _, n) => n == 1 && zdis (decode cc pc) .aconst_null 1
  | (2, _, _, x, n) => zc2 (decode cc pc) T x n
  | (3, _, _, _, n) => n == 1 && zdis (decode cc pc) (.fconst 0) 1
  | (4, i, t, _, n) => zc4 (decode cc pc) i t n
  | (5, i, t, _, n) => zc5 (decode cc pc) i t n
  | (6, i, _, x, n) => n == 3 && zdis (decode cc pc) (.iinc i x) 3
  | (7, o, _, _, n) => n == 1 && decide (o < 11) && zdis (decode cc pc) (zbinI o) 1
  | (8, o, _, _, n) => n == 1 && decide (o < 4) && zdis (decode cc pc) (zlbinI o) 1
  | (9, o, _, _, n) => n == 1 && decide (o < 9) && zdis (decode cc pc) (zunI o) 1
  | (10, o, _, _, n) => n == 1 && decide (o < 5) && zdis (decode cc pc) (zcmpI o) 1
  | (11, o, _, _, n) => n == 1 && decide (o < 5) && zdis (decode cc pc) (zstkI o) 1
  | (12, o, j, _, _) => zc12 (decode cc pc) pc o j
  | (13, o, j, _, _) => zc13 (decode cc pc) pc o j
  | (14, o, j, _, _) => zc14 (decode cc pc) pc o j
  | (15, _, j, _, _) => zc15 (decode cc pc) pc j
  | (16, kd, j, _, _) => zc16 (decode cc pc) T kd j
  | (17, kd, j, x, _) => zc17 (decode cc pc) ini T kd j x
  | (18, kd, _, _, _) => decide (20 ≤ kd) && decide (kd < 29) && zdis (decode cc pc) (zaldI kd) 1
  | (19, kd, _, _, _) => decide (20 ≤ kd) && decide (kd < 25) && zdis (decode cc pc) (zastI kd) 1
  | (20, kd, ko, _, _) => zhas 16 kd ko 0 0 T && zdis (decode cc pc) .aastore 1
  | (21, _, _, _, _) => zdis (decode cc pc) .arraylength 1
  | (22, kd, _, _, _) => zc22 (decode cc pc) T kd
  | (23, kd, _, _, n) => zc23 (decode cc pc) T kd n
  | (24, i, j, x, _) => zc24 (decode cc pc) np T i j x
  | (25, _, _, _, _) => zc25 (decode cc pc) T
  | (26, t, _, _, _) => zc26 (decode cc pc) ret t
  | (27, _, _, _, _) => zdis (decode cc pc) .return_ 1 && decide (ret = none)
  | (28, E, _, _, _) => h0 && zc28 cc T pc E
  | (29, i, j, _, _) => zc29 (decode cc pc) (sw i) pc j
  | (30, i, _, _, _) => zc30 (decode cc pc) T i
  | (31, o, _, _, _) => zc31 (decode cc pc) T o
  | _ => false
