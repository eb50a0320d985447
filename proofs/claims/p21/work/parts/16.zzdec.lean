/-! Short instructions decoded by their bytes alone, wherever they stand. Printed by wip/gen/ops.py. -/
abbrev zU (cc : ByteArray) (p b : Nat) : Prop := (Reader.u1 : Decoder Nat).runAt cc p = .ok (b, p + 1)
theorem zu1 {cc : ByteArray} {p b : Nat} (h : cc.data.toList[p]? = some (UInt8.ofNat b)) (hb : b < 256) : zU cc p b := by
  have h1 : p < cc.size := by
    have := (List.getElem?_eq_some_iff.mp h).1
    simpa using this
  have h2 : cc[p] = UInt8.ofNat b := by
    obtain ⟨h3, h4⟩ := List.getElem?_eq_some_iff.mp h
    exact h4
  have h3 : (cc[p]).toNat = b := by rw [h2]; simp; omega
  have e : (Reader.u1 : Decoder Nat).runAt cc p = ((if h : p < cc.size then (do set (p + 1); Pure.pure cc[p].toNat : Decoder Nat) else throw (HasTruncated.truncated p)) : Decoder Nat).runAt cc p := rfl
  show (Reader.u1 : Decoder Nat).runAt cc p = _
  rw [e, dif_pos h1, h3]
  rfl
theorem zd_of {cc : ByteArray} {pc n : Nat} {ins : Instr} (e : (Decoder.instr pc).runAt cc pc = .ok (ins, pc + n)) : decode cc pc = .ok (ins, n) := by
  unfold decode
  rw [e]
  show (.ok (ins, pc + n - pc) : Except DecodeError (Instr × Nat)) = _
  rw [Nat.add_sub_cancel_left]
theorem zd_1 {cc : ByteArray} {pc : Nat} (h : zU cc pc 1) : decode cc pc = .ok (.aconst_null, 1) := zd_of (by
  show Except.bind ((Reader.u1 : Decoder Nat).runAt cc pc) _ = _
  rw [show (Reader.u1 : Decoder Nat).runAt cc pc = _ from h]
  rfl)
theorem zd_2 {cc : ByteArray} {pc : Nat} (h : zU cc pc 2) : decode cc pc = .ok (.iconst (-1), 1) := zd_of (by
  show Except.bind ((Reader.u1 : Decoder Nat).runAt cc pc) _ = _
  rw [show (Reader.u1 : Decoder Nat).runAt cc pc = _ from h]
  rfl)
theorem zd_3 {cc : ByteArray} {pc : Nat} (h : zU cc pc 3) : decode cc pc = .ok (.iconst 0, 1) := zd_of (by
  show Except.bind ((Reader.u1 : Decoder Nat).runAt cc pc) _ = _
  rw [show (Reader.u1 : Decoder Nat).runAt cc pc = _ from h]
  rfl)
theorem zd_4 {cc : ByteArray} {pc : Nat} (h : zU cc pc 4) : decode cc pc = .ok (.iconst 1, 1) := zd_of (by
  show Except.bind ((Reader.u1 : Decoder Nat).runAt cc pc) _ = _
  rw [show (Reader.u1 : Decoder Nat).runAt cc pc = _ from h]
  rfl)
theorem zd_5 {cc : ByteArray} {pc : Nat} (h : zU cc pc 5) : decode cc pc = .ok (.iconst 2, 1) := zd_of (by
  show Except.bind ((Reader.u1 : Decoder Nat).runAt cc pc) _ = _
  rw [show (Reader.u1 : Decoder Nat).runAt cc pc = _ from h]
  rfl)
theorem zd_6 {cc : ByteArray} {pc : Nat} (h : zU cc pc 6) : decode cc pc = .ok (.iconst 3, 1) := zd_of (by
  show Except.bind ((Reader.u1 : Decoder Nat).runAt cc pc) _ = _
  rw [show (Reader.u1 : Decoder Nat).runAt cc pc = _ from h]
  rfl)
theorem zd_7 {cc : ByteArray} {pc : Nat} (h : zU cc pc 7) : decode cc pc = .ok (.iconst 4, 1) := zd_of (by
  show Except.bind ((Reader.u1 : Decoder Nat).runAt cc pc) _ = _
  rw [show (Reader.u1 : Decoder Nat).runAt cc pc = _ from h]
  rfl)
theorem zd_8 {cc : ByteArray} {pc : Nat} (h : zU cc pc 8) : decode cc pc = .ok (.iconst 5, 1) := zd_of (by
  show Except.bind ((Reader.u1 : Decoder Nat).runAt cc pc) _ = _
  rw [show (Reader.u1 : Decoder Nat).runAt cc pc = _ from h]
  rfl)
theorem zd_9 {cc : ByteArray} {pc : Nat} (h : zU cc pc 9) : decode cc pc = .ok (.lconst 0, 1) := zd_of (by
  show Except.bind ((Reader.u1 : Decoder Nat).runAt cc pc) _ = _
  rw [show (Reader.u1 : Decoder Nat).runAt cc pc = _ from h]
  rfl)
theorem zd_10 {cc : ByteArray} {pc : Nat} (h : zU cc pc 10) : decode cc pc = .ok (.lconst 1, 1) := zd_of (by
  show Except.bind ((Reader.u1 : Decoder Nat).runAt cc pc) _ = _
  rw [show (Reader.u1 : Decoder Nat).runAt cc pc = _ from h]
  rfl)
theorem zd_11 {cc : ByteArray} {pc : Nat} (h : zU cc pc 11) : decode cc pc = .ok (.fconst 0, 1) := zd_of (by
  show Except.bind ((Reader.u1 : Decoder Nat).runAt cc pc) _ = _
  rw [show (Reader.u1 : Decoder Nat).runAt cc pc = _ from h]
  rfl)
theorem zd_26 {cc : ByteArray} {pc : Nat} (h : zU cc pc 26) : decode cc pc = .ok (.iload_n 0, 1) := zd_of (by
  show Except.bind ((Reader.u1 : Decoder Nat).runAt cc pc) _ = _
  rw [show (Reader.u1 : Decoder Nat).runAt cc pc = _ from h]
  rfl)
theorem zd_27 {cc : ByteArray} {pc : Nat} (h : zU cc pc 27) : decode cc pc = .ok (.iload_n 1, 1) := zd_of (by
  show Except.bind ((Reader.u1 : Decoder Nat).runAt cc pc) _ = _
  rw [show (Reader.u1 : Decoder Nat).runAt cc pc = _ from h]
  rfl)
theorem zd_28 {cc : ByteArray} {pc : Nat} (h : zU cc pc 28) : decode cc pc = .ok (.iload_n 2, 1) := zd_of (by
  show Except.bind ((Reader.u1 : Decoder Nat).runAt cc pc) _ = _
  rw [show (Reader.u1 : Decoder Nat).runAt cc pc = _ from h]
  rfl)
theorem zd_29 {cc : ByteArray} {pc : Nat} (h : zU cc pc 29) : decode cc pc = .ok (.iload_n 3, 1) := zd_of (by
  show Except.bind ((Reader.u1 : Decoder Nat).runAt cc pc) _ = _
  rw [show (Reader.u1 : Decoder Nat).runAt cc pc = _ from h]
  rfl)
theorem zd_30 {cc : ByteArray} {pc : Nat} (h : zU cc pc 30) : decode cc pc = .ok (.lload_n 0, 1) := zd_of (by
  show Except.bind ((Reader.u1 : Decoder Nat).runAt cc pc) _ = _
  rw [show (Reader.u1 : Decoder Nat).runAt cc pc = _ from h]
  rfl)
theorem zd_31 {cc : ByteArray} {pc : Nat} (h : zU cc pc 31) : decode cc pc = .ok (.lload_n 1, 1) := zd_of (by
  show Except.bind ((Reader.u1 : Decoder Nat).runAt cc pc) _ = _
  rw [show (Reader.u1 : Decoder Nat).runAt cc pc = _ from h]
  rfl)
theorem zd_32 {cc : ByteArray} {pc : Nat} (h : zU cc pc 32) : decode cc pc = .ok (.lload_n 2, 1) := zd_of (by
  show Except.bind ((Reader.u1 : Decoder Nat).runAt cc pc) _ = _
  rw [show (Reader.u1 : Decoder Nat).runAt cc pc = _ from h]
  rfl)
theorem zd_33 {cc : ByteArray} {pc : Nat} (h : zU cc pc 33) : decode cc pc = .ok (.lload_n 3, 1) := zd_of (by
  show Except.bind ((Reader.u1 : Decoder Nat).runAt cc pc) _ = _
  rw [show (Reader.u1 : Decoder Nat).runAt cc pc = _ from h]
  rfl)
theorem zd_34 {cc : ByteArray} {pc : Nat} (h : zU cc pc 34) : decode cc pc = .ok (.fload_n 0, 1) := zd_of (by
  show Except.bind ((Reader.u1 : Decoder Nat).runAt cc pc) _ = _
  rw [show (Reader.u1 : Decoder Nat).runAt cc pc = _ from h]
  rfl)
theorem zd_35 {cc : ByteArray} {pc : Nat} (h : zU cc pc 35) : decode cc pc = .ok (.fload_n 1, 1) := zd_of (by
  show Except.bind ((Reader.u1 : Decoder Nat).runAt cc pc) _ = _
  rw [show (Reader.u1 : Decoder Nat).runAt cc pc = _ from h]
  rfl)
theorem zd_36 {cc : ByteArray} {pc : Nat} (h : zU cc pc 36) : decode cc pc = .ok (.fload_n 2, 1) := zd_of (by
  show Except.bind ((Reader.u1 : Decoder Nat).runAt cc pc) _ = _
  rw [show (Reader.u1 : Decoder Nat).runAt cc pc = _ from h]
  rfl)
theorem zd_37 {cc : ByteArray} {pc : Nat} (h : zU cc pc 37) : decode cc pc = .ok (.fload_n 3, 1) := zd_of (by
  show Except.bind ((Reader.u1 : Decoder Nat).runAt cc pc) _ = _
  rw [show (Reader.u1 : Decoder Nat).runAt cc pc = _ from h]
  rfl)
theorem zd_38 {cc : ByteArray} {pc : Nat} (h : zU cc pc 38) : decode cc pc = .ok (.dload_n 0, 1) := zd_of (by
  show Except.bind ((Reader.u1 : Decoder Nat).runAt cc pc) _ = _
  rw [show (Reader.u1 : Decoder Nat).runAt cc pc = _ from h]
  rfl)
theorem zd_39 {cc : ByteArray} {pc : Nat} (h : zU cc pc 39) : decode cc pc = .ok (.dload_n 1, 1) := zd_of (by
  show Except.bind ((Reader.u1 : Decoder Nat).runAt cc pc) _ = _
  rw [show (Reader.u1 : Decoder Nat).runAt cc pc = _ from h]
  rfl)
theorem zd_40 {cc : ByteArray} {pc : Nat} (h : zU cc pc 40) : decode cc pc = .ok (.dload_n 2, 1) := zd_of (by
  show Except.bind ((Reader.u1 : Decoder Nat).runAt cc pc) _ = _
  rw [show (Reader.u1 : Decoder Nat).runAt cc pc = _ from h]
  rfl)
theorem zd_41 {cc : ByteArray} {pc : Nat} (h : zU cc pc 41) : decode cc pc = .ok (.dload_n 3, 1) := zd_of (by
  show Except.bind ((Reader.u1 : Decoder Nat).runAt cc pc) _ = _
  rw [show (Reader.u1 : Decoder Nat).runAt cc pc = _ from h]
  rfl)
theorem zd_42 {cc : ByteArray} {pc : Nat} (h : zU cc pc 42) : decode cc pc = .ok (.aload_n 0, 1) := zd_of (by
  show Except.bind ((Reader.u1 : Decoder Nat).runAt cc pc) _ = _
  rw [show (Reader.u1 : Decoder Nat).runAt cc pc = _ from h]
  rfl)
theorem zd_43 {cc : ByteArray} {pc : Nat} (h : zU cc pc 43) : decode cc pc = .ok (.aload_n 1, 1) := zd_of (by
  show Except.bind ((Reader.u1 : Decoder Nat).runAt cc pc) _ = _
  rw [show (Reader.u1 : Decoder Nat).runAt cc pc = _ from h]
  rfl)
theorem zd_44 {cc : ByteArray} {pc : Nat} (h : zU cc pc 44) : decode cc pc = .ok (.aload_n 2, 1) := zd_of (by
  show Except.bind ((Reader.u1 : Decoder Nat).runAt cc pc) _ = _
  rw [show (Reader.u1 : Decoder Nat).runAt cc pc = _ from h]
  rfl)
theorem zd_45 {cc : ByteArray} {pc : Nat} (h : zU cc pc 45) : decode cc pc = .ok (.aload_n 3, 1) := zd_of (by
  show Except.bind ((Reader.u1 : Decoder Nat).runAt cc pc) _ = _
  rw [show (Reader.u1 : Decoder Nat).runAt cc pc = _ from h]
  rfl)
theorem zd_46 {cc : ByteArray} {pc : Nat} (h : zU cc pc 46) : decode cc pc = .ok (.iaload, 1) := zd_of (by
  show Except.bind ((Reader.u1 : Decoder Nat).runAt cc pc) _ = _
  rw [show (Reader.u1 : Decoder Nat).runAt cc pc = _ from h]
  rfl)
theorem zd_47 {cc : ByteArray} {pc : Nat} (h : zU cc pc 47) : decode cc pc = .ok (.laload, 1) := zd_of (by
  show Except.bind ((Reader.u1 : Decoder Nat).runAt cc pc) _ = _
  rw [show (Reader.u1 : Decoder Nat).runAt cc pc = _ from h]
  rfl)
theorem zd_49 {cc : ByteArray} {pc : Nat} (h : zU cc pc 49) : decode cc pc = .ok (.daload, 1) := zd_of (by
  show Except.bind ((Reader.u1 : Decoder Nat).runAt cc pc) _ = _
  rw [show (Reader.u1 : Decoder Nat).runAt cc pc = _ from h]
  rfl)
theorem zd_50 {cc : ByteArray} {pc : Nat} (h : zU cc pc 50) : decode cc pc = .ok (.aaload, 1) := zd_of (by
  show Except.bind ((Reader.u1 : Decoder Nat).runAt cc pc) _ = _
  rw [show (Reader.u1 : Decoder Nat).runAt cc pc = _ from h]
  rfl)
theorem zd_51 {cc : ByteArray} {pc : Nat} (h : zU cc pc 51) : decode cc pc = .ok (.baload, 1) := zd_of (by
  show Except.bind ((Reader.u1 : Decoder Nat).runAt cc pc) _ = _
  rw [show (Reader.u1 : Decoder Nat).runAt cc pc = _ from h]
  rfl)
theorem zd_52 {cc : ByteArray} {pc : Nat} (h : zU cc pc 52) : decode cc pc = .ok (.caload, 1) := zd_of (by
  show Except.bind ((Reader.u1 : Decoder Nat).runAt cc pc) _ = _
  rw [show (Reader.u1 : Decoder Nat).runAt cc pc = _ from h]
  rfl)
theorem zd_59 {cc : ByteArray} {pc : Nat} (h : zU cc pc 59) : decode cc pc = .ok (.istore_n 0, 1) := zd_of (by
  show Except.bind ((Reader.u1 : Decoder Nat).runAt cc pc) _ = _
  rw [show (Reader.u1 : Decoder Nat).runAt cc pc = _ from h]
  rfl)
theorem zd_60 {cc : ByteArray} {pc : Nat} (h : zU cc pc 60) : decode cc pc = .ok (.istore_n 1, 1) := zd_of (by
  show Except.bind ((Reader.u1 : Decoder Nat).runAt cc pc) _ = _
  rw [show (Reader.u1 : Decoder Nat).runAt cc pc = _ from h]
  rfl)
theorem zd_61 {cc : ByteArray} {pc : Nat} (h : zU cc pc 61) : decode cc pc = .ok (.istore_n 2, 1) := zd_of (by
  show Except.bind ((Reader.u1 : Decoder Nat).runAt cc pc) _ = _
  rw [show (Reader.u1 : Decoder Nat).runAt cc pc = _ from h]
  rfl)
theorem zd_62 {cc : ByteArray} {pc : Nat} (h : zU cc pc 62) : decode cc pc = .ok (.istore_n 3, 1) := zd_of (by
  show Except.bind ((Reader.u1 : Decoder Nat).runAt cc pc) _ = _
  rw [show (Reader.u1 : Decoder Nat).runAt cc pc = _ from h]
  rfl)
theorem zd_75 {cc : ByteArray} {pc : Nat} (h : zU cc pc 75) : decode cc pc = .ok (.astore_n 0, 1) := zd_of (by
  show Except.bind ((Reader.u1 : Decoder Nat).runAt cc pc) _ = _
  rw [show (Reader.u1 : Decoder Nat).runAt cc pc = _ from h]
  rfl)
theorem zd_76 {cc : ByteArray} {pc : Nat} (h : zU cc pc 76) : decode cc pc = .ok (.astore_n 1, 1) := zd_of (by
  show Except.bind ((Reader.u1 : Decoder Nat).runAt cc pc) _ = _
  rw [show (Reader.u1 : Decoder Nat).runAt cc pc = _ from h]
  rfl)
theorem zd_77 {cc : ByteArray} {pc : Nat} (h : zU cc pc 77) : decode cc pc = .ok (.astore_n 2, 1) := zd_of (by
  show Except.bind ((Reader.u1 : Decoder Nat).runAt cc pc) _ = _
  rw [show (Reader.u1 : Decoder Nat).runAt cc pc = _ from h]
  rfl)
theorem zd_78 {cc : ByteArray} {pc : Nat} (h : zU cc pc 78) : decode cc pc = .ok (.astore_n 3, 1) := zd_of (by
  show Except.bind ((Reader.u1 : Decoder Nat).runAt cc pc) _ = _
  rw [show (Reader.u1 : Decoder Nat).runAt cc pc = _ from h]
  rfl)
theorem zd_79 {cc : ByteArray} {pc : Nat} (h : zU cc pc 79) : decode cc pc = .ok (.iastore, 1) := zd_of (by
  show Except.bind ((Reader.u1 : Decoder Nat).runAt cc pc) _ = _
  rw [show (Reader.u1 : Decoder Nat).runAt cc pc = _ from h]
  rfl)
theorem zd_80 {cc : ByteArray} {pc : Nat} (h : zU cc pc 80) : decode cc pc = .ok (.lastore, 1) := zd_of (by
  show Except.bind ((Reader.u1 : Decoder Nat).runAt cc pc) _ = _
  rw [show (Reader.u1 : Decoder Nat).runAt cc pc = _ from h]
  rfl)
theorem zd_82 {cc : ByteArray} {pc : Nat} (h : zU cc pc 82) : decode cc pc = .ok (.dastore, 1) := zd_of (by
  show Except.bind ((Reader.u1 : Decoder Nat).runAt cc pc) _ = _
  rw [show (Reader.u1 : Decoder Nat).runAt cc pc = _ from h]
  rfl)
theorem zd_83 {cc : ByteArray} {pc : Nat} (h : zU cc pc 83) : decode cc pc = .ok (.aastore, 1) := zd_of (by
  show Except.bind ((Reader.u1 : Decoder Nat).runAt cc pc) _ = _
  rw [show (Reader.u1 : Decoder Nat).runAt cc pc = _ from h]
  rfl)
theorem zd_84 {cc : ByteArray} {pc : Nat} (h : zU cc pc 84) : decode cc pc = .ok (.bastore, 1) := zd_of (by
  show Except.bind ((Reader.u1 : Decoder Nat).runAt cc pc) _ = _
  rw [show (Reader.u1 : Decoder Nat).runAt cc pc = _ from h]
  rfl)
theorem zd_85 {cc : ByteArray} {pc : Nat} (h : zU cc pc 85) : decode cc pc = .ok (.castore, 1) := zd_of (by
  show Except.bind ((Reader.u1 : Decoder Nat).runAt cc pc) _ = _
  rw [show (Reader.u1 : Decoder Nat).runAt cc pc = _ from h]
  rfl)
theorem zd_87 {cc : ByteArray} {pc : Nat} (h : zU cc pc 87) : decode cc pc = .ok (.pop, 1) := zd_of (by
  show Except.bind ((Reader.u1 : Decoder Nat).runAt cc pc) _ = _
  rw [show (Reader.u1 : Decoder Nat).runAt cc pc = _ from h]
  rfl)
theorem zd_89 {cc : ByteArray} {pc : Nat} (h : zU cc pc 89) : decode cc pc = .ok (.dup, 1) := zd_of (by
  show Except.bind ((Reader.u1 : Decoder Nat).runAt cc pc) _ = _
  rw [show (Reader.u1 : Decoder Nat).runAt cc pc = _ from h]
  rfl)
theorem zd_90 {cc : ByteArray} {pc : Nat} (h : zU cc pc 90) : decode cc pc = .ok (.dup_x1, 1) := zd_of (by
  show Except.bind ((Reader.u1 : Decoder Nat).runAt cc pc) _ = _
  rw [show (Reader.u1 : Decoder Nat).runAt cc pc = _ from h]
  rfl)
theorem zd_91 {cc : ByteArray} {pc : Nat} (h : zU cc pc 91) : decode cc pc = .ok (.dup_x2, 1) := zd_of (by
  show Except.bind ((Reader.u1 : Decoder Nat).runAt cc pc) _ = _
  rw [show (Reader.u1 : Decoder Nat).runAt cc pc = _ from h]
  rfl)
theorem zd_92 {cc : ByteArray} {pc : Nat} (h : zU cc pc 92) : decode cc pc = .ok (.dup2, 1) := zd_of (by
  show Except.bind ((Reader.u1 : Decoder Nat).runAt cc pc) _ = _
  rw [show (Reader.u1 : Decoder Nat).runAt cc pc = _ from h]
  rfl)
theorem zd_96 {cc : ByteArray} {pc : Nat} (h : zU cc pc 96) : decode cc pc = .ok (.iadd, 1) := zd_of (by
  show Except.bind ((Reader.u1 : Decoder Nat).runAt cc pc) _ = _
  rw [show (Reader.u1 : Decoder Nat).runAt cc pc = _ from h]
  rfl)
theorem zd_97 {cc : ByteArray} {pc : Nat} (h : zU cc pc 97) : decode cc pc = .ok (.ladd, 1) := zd_of (by
  show Except.bind ((Reader.u1 : Decoder Nat).runAt cc pc) _ = _
  rw [show (Reader.u1 : Decoder Nat).runAt cc pc = _ from h]
  rfl)
theorem zd_100 {cc : ByteArray} {pc : Nat} (h : zU cc pc 100) : decode cc pc = .ok (.isub, 1) := zd_of (by
  show Except.bind ((Reader.u1 : Decoder Nat).runAt cc pc) _ = _
  rw [show (Reader.u1 : Decoder Nat).runAt cc pc = _ from h]
  rfl)
theorem zd_101 {cc : ByteArray} {pc : Nat} (h : zU cc pc 101) : decode cc pc = .ok (.lsub, 1) := zd_of (by
  show Except.bind ((Reader.u1 : Decoder Nat).runAt cc pc) _ = _
  rw [show (Reader.u1 : Decoder Nat).runAt cc pc = _ from h]
  rfl)
theorem zd_104 {cc : ByteArray} {pc : Nat} (h : zU cc pc 104) : decode cc pc = .ok (.imul, 1) := zd_of (by
  show Except.bind ((Reader.u1 : Decoder Nat).runAt cc pc) _ = _
  rw [show (Reader.u1 : Decoder Nat).runAt cc pc = _ from h]
  rfl)
theorem zd_108 {cc : ByteArray} {pc : Nat} (h : zU cc pc 108) : decode cc pc = .ok (.idiv, 1) := zd_of (by
  show Except.bind ((Reader.u1 : Decoder Nat).runAt cc pc) _ = _
  rw [show (Reader.u1 : Decoder Nat).runAt cc pc = _ from h]
  rfl)
theorem zd_109 {cc : ByteArray} {pc : Nat} (h : zU cc pc 109) : decode cc pc = .ok (.ldiv, 1) := zd_of (by
  show Except.bind ((Reader.u1 : Decoder Nat).runAt cc pc) _ = _
  rw [show (Reader.u1 : Decoder Nat).runAt cc pc = _ from h]
  rfl)
theorem zd_110 {cc : ByteArray} {pc : Nat} (h : zU cc pc 110) : decode cc pc = .ok (.fdiv, 1) := zd_of (by
  show Except.bind ((Reader.u1 : Decoder Nat).runAt cc pc) _ = _
  rw [show (Reader.u1 : Decoder Nat).runAt cc pc = _ from h]
  rfl)
theorem zd_111 {cc : ByteArray} {pc : Nat} (h : zU cc pc 111) : decode cc pc = .ok (.ddiv, 1) := zd_of (by
  show Except.bind ((Reader.u1 : Decoder Nat).runAt cc pc) _ = _
  rw [show (Reader.u1 : Decoder Nat).runAt cc pc = _ from h]
  rfl)
theorem zd_112 {cc : ByteArray} {pc : Nat} (h : zU cc pc 112) : decode cc pc = .ok (.irem, 1) := zd_of (by
  show Except.bind ((Reader.u1 : Decoder Nat).runAt cc pc) _ = _
  rw [show (Reader.u1 : Decoder Nat).runAt cc pc = _ from h]
  rfl)
theorem zd_113 {cc : ByteArray} {pc : Nat} (h : zU cc pc 113) : decode cc pc = .ok (.lrem, 1) := zd_of (by
  show Except.bind ((Reader.u1 : Decoder Nat).runAt cc pc) _ = _
  rw [show (Reader.u1 : Decoder Nat).runAt cc pc = _ from h]
  rfl)
theorem zd_116 {cc : ByteArray} {pc : Nat} (h : zU cc pc 116) : decode cc pc = .ok (.ineg, 1) := zd_of (by
  show Except.bind ((Reader.u1 : Decoder Nat).runAt cc pc) _ = _
  rw [show (Reader.u1 : Decoder Nat).runAt cc pc = _ from h]
  rfl)
theorem zd_117 {cc : ByteArray} {pc : Nat} (h : zU cc pc 117) : decode cc pc = .ok (.lneg, 1) := zd_of (by
  show Except.bind ((Reader.u1 : Decoder Nat).runAt cc pc) _ = _
  rw [show (Reader.u1 : Decoder Nat).runAt cc pc = _ from h]
  rfl)
theorem zd_120 {cc : ByteArray} {pc : Nat} (h : zU cc pc 120) : decode cc pc = .ok (.ishl, 1) := zd_of (by
  show Except.bind ((Reader.u1 : Decoder Nat).runAt cc pc) _ = _
  rw [show (Reader.u1 : Decoder Nat).runAt cc pc = _ from h]
  rfl)
theorem zd_122 {cc : ByteArray} {pc : Nat} (h : zU cc pc 122) : decode cc pc = .ok (.ishr, 1) := zd_of (by
  show Except.bind ((Reader.u1 : Decoder Nat).runAt cc pc) _ = _
  rw [show (Reader.u1 : Decoder Nat).runAt cc pc = _ from h]
  rfl)
theorem zd_124 {cc : ByteArray} {pc : Nat} (h : zU cc pc 124) : decode cc pc = .ok (.iushr, 1) := zd_of (by
  show Except.bind ((Reader.u1 : Decoder Nat).runAt cc pc) _ = _
  rw [show (Reader.u1 : Decoder Nat).runAt cc pc = _ from h]
  rfl)
theorem zd_126 {cc : ByteArray} {pc : Nat} (h : zU cc pc 126) : decode cc pc = .ok (.iand, 1) := zd_of (by
  show Except.bind ((Reader.u1 : Decoder Nat).runAt cc pc) _ = _
  rw [show (Reader.u1 : Decoder Nat).runAt cc pc = _ from h]
  rfl)
theorem zd_128 {cc : ByteArray} {pc : Nat} (h : zU cc pc 128) : decode cc pc = .ok (.ior, 1) := zd_of (by
  show Except.bind ((Reader.u1 : Decoder Nat).runAt cc pc) _ = _
  rw [show (Reader.u1 : Decoder Nat).runAt cc pc = _ from h]
  rfl)
theorem zd_130 {cc : ByteArray} {pc : Nat} (h : zU cc pc 130) : decode cc pc = .ok (.ixor, 1) := zd_of (by
  show Except.bind ((Reader.u1 : Decoder Nat).runAt cc pc) _ = _
  rw [show (Reader.u1 : Decoder Nat).runAt cc pc = _ from h]
  rfl)
theorem zd_133 {cc : ByteArray} {pc : Nat} (h : zU cc pc 133) : decode cc pc = .ok (.i2l, 1) := zd_of (by
  show Except.bind ((Reader.u1 : Decoder Nat).runAt cc pc) _ = _
  rw [show (Reader.u1 : Decoder Nat).runAt cc pc = _ from h]
  rfl)
theorem zd_134 {cc : ByteArray} {pc : Nat} (h : zU cc pc 134) : decode cc pc = .ok (.i2f, 1) := zd_of (by
  show Except.bind ((Reader.u1 : Decoder Nat).runAt cc pc) _ = _
  rw [show (Reader.u1 : Decoder Nat).runAt cc pc = _ from h]
  rfl)
theorem zd_135 {cc : ByteArray} {pc : Nat} (h : zU cc pc 135) : decode cc pc = .ok (.i2d, 1) := zd_of (by
  show Except.bind ((Reader.u1 : Decoder Nat).runAt cc pc) _ = _
  rw [show (Reader.u1 : Decoder Nat).runAt cc pc = _ from h]
  rfl)
theorem zd_136 {cc : ByteArray} {pc : Nat} (h : zU cc pc 136) : decode cc pc = .ok (.l2i, 1) := zd_of (by
  show Except.bind ((Reader.u1 : Decoder Nat).runAt cc pc) _ = _
  rw [show (Reader.u1 : Decoder Nat).runAt cc pc = _ from h]
  rfl)
theorem zd_141 {cc : ByteArray} {pc : Nat} (h : zU cc pc 141) : decode cc pc = .ok (.f2d, 1) := zd_of (by
  show Except.bind ((Reader.u1 : Decoder Nat).runAt cc pc) _ = _
  rw [show (Reader.u1 : Decoder Nat).runAt cc pc = _ from h]
  rfl)
theorem zd_145 {cc : ByteArray} {pc : Nat} (h : zU cc pc 145) : decode cc pc = .ok (.i2b, 1) := zd_of (by
  show Except.bind ((Reader.u1 : Decoder Nat).runAt cc pc) _ = _
  rw [show (Reader.u1 : Decoder Nat).runAt cc pc = _ from h]
  rfl)
theorem zd_146 {cc : ByteArray} {pc : Nat} (h : zU cc pc 146) : decode cc pc = .ok (.i2c, 1) := zd_of (by
  show Except.bind ((Reader.u1 : Decoder Nat).runAt cc pc) _ = _
  rw [show (Reader.u1 : Decoder Nat).runAt cc pc = _ from h]
  rfl)
theorem zd_148 {cc : ByteArray} {pc : Nat} (h : zU cc pc 148) : decode cc pc = .ok (.lcmp, 1) := zd_of (by
  show Except.bind ((Reader.u1 : Decoder Nat).runAt cc pc) _ = _
  rw [show (Reader.u1 : Decoder Nat).runAt cc pc = _ from h]
  rfl)
theorem zd_149 {cc : ByteArray} {pc : Nat} (h : zU cc pc 149) : decode cc pc = .ok (.fcmp .l, 1) := zd_of (by
  show Except.bind ((Reader.u1 : Decoder Nat).runAt cc pc) _ = _
  rw [show (Reader.u1 : Decoder Nat).runAt cc pc = _ from h]
  rfl)
theorem zd_151 {cc : ByteArray} {pc : Nat} (h : zU cc pc 151) : decode cc pc = .ok (.dcmp .l, 1) := zd_of (by
  show Except.bind ((Reader.u1 : Decoder Nat).runAt cc pc) _ = _
  rw [show (Reader.u1 : Decoder Nat).runAt cc pc = _ from h]
  rfl)
theorem zd_172 {cc : ByteArray} {pc : Nat} (h : zU cc pc 172) : decode cc pc = .ok (.ireturn, 1) := zd_of (by
  show Except.bind ((Reader.u1 : Decoder Nat).runAt cc pc) _ = _
  rw [show (Reader.u1 : Decoder Nat).runAt cc pc = _ from h]
  rfl)
theorem zd_173 {cc : ByteArray} {pc : Nat} (h : zU cc pc 173) : decode cc pc = .ok (.lreturn, 1) := zd_of (by
  show Except.bind ((Reader.u1 : Decoder Nat).runAt cc pc) _ = _
  rw [show (Reader.u1 : Decoder Nat).runAt cc pc = _ from h]
  rfl)
theorem zd_174 {cc : ByteArray} {pc : Nat} (h : zU cc pc 174) : decode cc pc = .ok (.freturn, 1) := zd_of (by
  show Except.bind ((Reader.u1 : Decoder Nat).runAt cc pc) _ = _
  rw [show (Reader.u1 : Decoder Nat).runAt cc pc = _ from h]
  rfl)
theorem zd_175 {cc : ByteArray} {pc : Nat} (h : zU cc pc 175) : decode cc pc = .ok (.dreturn, 1) := zd_of (by
  show Except.bind ((Reader.u1 : Decoder Nat).runAt cc pc) _ = _
  rw [show (Reader.u1 : Decoder Nat).runAt cc pc = _ from h]
  rfl)
theorem zd_176 {cc : ByteArray} {pc : Nat} (h : zU cc pc 176) : decode cc pc = .ok (.areturn, 1) := zd_of (by
  show Except.bind ((Reader.u1 : Decoder Nat).runAt cc pc) _ = _
  rw [show (Reader.u1 : Decoder Nat).runAt cc pc = _ from h]
  rfl)
theorem zd_177 {cc : ByteArray} {pc : Nat} (h : zU cc pc 177) : decode cc pc = .ok (.return_, 1) := zd_of (by
  show Except.bind ((Reader.u1 : Decoder Nat).runAt cc pc) _ = _
  rw [show (Reader.u1 : Decoder Nat).runAt cc pc = _ from h]
  rfl)
theorem zd_190 {cc : ByteArray} {pc : Nat} (h : zU cc pc 190) : decode cc pc = .ok (.arraylength, 1) := zd_of (by
  show Except.bind ((Reader.u1 : Decoder Nat).runAt cc pc) _ = _
  rw [show (Reader.u1 : Decoder Nat).runAt cc pc = _ from h]
  rfl)
theorem zd_191 {cc : ByteArray} {pc : Nat} (h : zU cc pc 191) : decode cc pc = .ok (.athrow, 1) := zd_of (by
  show Except.bind ((Reader.u1 : Decoder Nat).runAt cc pc) _ = _
  rw [show (Reader.u1 : Decoder Nat).runAt cc pc = _ from h]
  rfl)
theorem zd_16 {cc : ByteArray} {pc a : Nat} (h : zU cc pc 16) (h1 : zU cc (pc + 1) a) : decode cc pc = .ok (.bipush (Reader.signed 8 a), 2) := zd_of (by
  show Except.bind ((Reader.u1 : Decoder Nat).runAt cc pc) _ = _
  rw [show (Reader.u1 : Decoder Nat).runAt cc pc = _ from h]
  (first | (show Except.bind ((Reader.u1 : Decoder Nat).runAt cc (pc + 1)) _ = _; rw [show (Reader.u1 : Decoder Nat).runAt cc (pc + 1) = _ from h1]) | (show Except.bind (Except.bind ((Reader.u1 : Decoder Nat).runAt cc (pc + 1)) _) _ = _; rw [show (Reader.u1 : Decoder Nat).runAt cc (pc + 1) = _ from h1]) | (show Except.bind (Except.bind (Except.bind ((Reader.u1 : Decoder Nat).runAt cc (pc + 1)) _) _) _ = _; rw [show (Reader.u1 : Decoder Nat).runAt cc (pc + 1) = _ from h1]))
  rfl)
theorem zd_18 {cc : ByteArray} {pc a : Nat} (h : zU cc pc 18) (h1 : zU cc (pc + 1) a) : decode cc pc = .ok (.ldc a, 2) := zd_of (by
  show Except.bind ((Reader.u1 : Decoder Nat).runAt cc pc) _ = _
  rw [show (Reader.u1 : Decoder Nat).runAt cc pc = _ from h]
  (first | (show Except.bind ((Reader.u1 : Decoder Nat).runAt cc (pc + 1)) _ = _; rw [show (Reader.u1 : Decoder Nat).runAt cc (pc + 1) = _ from h1]) | (show Except.bind (Except.bind ((Reader.u1 : Decoder Nat).runAt cc (pc + 1)) _) _ = _; rw [show (Reader.u1 : Decoder Nat).runAt cc (pc + 1) = _ from h1]) | (show Except.bind (Except.bind (Except.bind ((Reader.u1 : Decoder Nat).runAt cc (pc + 1)) _) _) _ = _; rw [show (Reader.u1 : Decoder Nat).runAt cc (pc + 1) = _ from h1]))
  rfl)
theorem zd_21 {cc : ByteArray} {pc a : Nat} (h : zU cc pc 21) (h1 : zU cc (pc + 1) a) : decode cc pc = .ok (.iload a, 2) := zd_of (by
  show Except.bind ((Reader.u1 : Decoder Nat).runAt cc pc) _ = _
  rw [show (Reader.u1 : Decoder Nat).runAt cc pc = _ from h]
  (first | (show Except.bind ((Reader.u1 : Decoder Nat).runAt cc (pc + 1)) _ = _; rw [show (Reader.u1 : Decoder Nat).runAt cc (pc + 1) = _ from h1]) | (show Except.bind (Except.bind ((Reader.u1 : Decoder Nat).runAt cc (pc + 1)) _) _ = _; rw [show (Reader.u1 : Decoder Nat).runAt cc (pc + 1) = _ from h1]) | (show Except.bind (Except.bind (Except.bind ((Reader.u1 : Decoder Nat).runAt cc (pc + 1)) _) _) _ = _; rw [show (Reader.u1 : Decoder Nat).runAt cc (pc + 1) = _ from h1]))
  rfl)
theorem zd_22 {cc : ByteArray} {pc a : Nat} (h : zU cc pc 22) (h1 : zU cc (pc + 1) a) : decode cc pc = .ok (.lload a, 2) := zd_of (by
  show Except.bind ((Reader.u1 : Decoder Nat).runAt cc pc) _ = _
  rw [show (Reader.u1 : Decoder Nat).runAt cc pc = _ from h]
  (first | (show Except.bind ((Reader.u1 : Decoder Nat).runAt cc (pc + 1)) _ = _; rw [show (Reader.u1 : Decoder Nat).runAt cc (pc + 1) = _ from h1]) | (show Except.bind (Except.bind ((Reader.u1 : Decoder Nat).runAt cc (pc + 1)) _) _ = _; rw [show (Reader.u1 : Decoder Nat).runAt cc (pc + 1) = _ from h1]) | (show Except.bind (Except.bind (Except.bind ((Reader.u1 : Decoder Nat).runAt cc (pc + 1)) _) _) _ = _; rw [show (Reader.u1 : Decoder Nat).runAt cc (pc + 1) = _ from h1]))
  rfl)
theorem zd_23 {cc : ByteArray} {pc a : Nat} (h : zU cc pc 23) (h1 : zU cc (pc + 1) a) : decode cc pc = .ok (.fload a, 2) := zd_of (by
  show Except.bind ((Reader.u1 : Decoder Nat).runAt cc pc) _ = _
  rw [show (Reader.u1 : Decoder Nat).runAt cc pc = _ from h]
  (first | (show Except.bind ((Reader.u1 : Decoder Nat).runAt cc (pc + 1)) _ = _; rw [show (Reader.u1 : Decoder Nat).runAt cc (pc + 1) = _ from h1]) | (show Except.bind (Except.bind ((Reader.u1 : Decoder Nat).runAt cc (pc + 1)) _) _ = _; rw [show (Reader.u1 : Decoder Nat).runAt cc (pc + 1) = _ from h1]) | (show Except.bind (Except.bind (Except.bind ((Reader.u1 : Decoder Nat).runAt cc (pc + 1)) _) _) _ = _; rw [show (Reader.u1 : Decoder Nat).runAt cc (pc + 1) = _ from h1]))
  rfl)
theorem zd_24 {cc : ByteArray} {pc a : Nat} (h : zU cc pc 24) (h1 : zU cc (pc + 1) a) : decode cc pc = .ok (.dload a, 2) := zd_of (by
  show Except.bind ((Reader.u1 : Decoder Nat).runAt cc pc) _ = _
  rw [show (Reader.u1 : Decoder Nat).runAt cc pc = _ from h]
  (first | (show Except.bind ((Reader.u1 : Decoder Nat).runAt cc (pc + 1)) _ = _; rw [show (Reader.u1 : Decoder Nat).runAt cc (pc + 1) = _ from h1]) | (show Except.bind (Except.bind ((Reader.u1 : Decoder Nat).runAt cc (pc + 1)) _) _ = _; rw [show (Reader.u1 : Decoder Nat).runAt cc (pc + 1) = _ from h1]) | (show Except.bind (Except.bind (Except.bind ((Reader.u1 : Decoder Nat).runAt cc (pc + 1)) _) _) _ = _; rw [show (Reader.u1 : Decoder Nat).runAt cc (pc + 1) = _ from h1]))
  rfl)
theorem zd_25 {cc : ByteArray} {pc a : Nat} (h : zU cc pc 25) (h1 : zU cc (pc + 1) a) : decode cc pc = .ok (.aload a, 2) := zd_of (by
  show Except.bind ((Reader.u1 : Decoder Nat).runAt cc pc) _ = _
  rw [show (Reader.u1 : Decoder Nat).runAt cc pc = _ from h]
  (first | (show Except.bind ((Reader.u1 : Decoder Nat).runAt cc (pc + 1)) _ = _; rw [show (Reader.u1 : Decoder Nat).runAt cc (pc + 1) = _ from h1]) | (show Except.bind (Except.bind ((Reader.u1 : Decoder Nat).runAt cc (pc + 1)) _) _ = _; rw [show (Reader.u1 : Decoder Nat).runAt cc (pc + 1) = _ from h1]) | (show Except.bind (Except.bind (Except.bind ((Reader.u1 : Decoder Nat).runAt cc (pc + 1)) _) _) _ = _; rw [show (Reader.u1 : Decoder Nat).runAt cc (pc + 1) = _ from h1]))
  rfl)
theorem zd_54 {cc : ByteArray} {pc a : Nat} (h : zU cc pc 54) (h1 : zU cc (pc + 1) a) : decode cc pc = .ok (.istore a, 2) := zd_of (by
  show Except.bind ((Reader.u1 : Decoder Nat).runAt cc pc) _ = _
  rw [show (Reader.u1 : Decoder Nat).runAt cc pc = _ from h]
  (first | (show Except.bind ((Reader.u1 : Decoder Nat).runAt cc (pc + 1)) _ = _; rw [show (Reader.u1 : Decoder Nat).runAt cc (pc + 1) = _ from h1]) | (show Except.bind (Except.bind ((Reader.u1 : Decoder Nat).runAt cc (pc + 1)) _) _ = _; rw [show (Reader.u1 : Decoder Nat).runAt cc (pc + 1) = _ from h1]) | (show Except.bind (Except.bind (Except.bind ((Reader.u1 : Decoder Nat).runAt cc (pc + 1)) _) _) _ = _; rw [show (Reader.u1 : Decoder Nat).runAt cc (pc + 1) = _ from h1]))
  rfl)
theorem zd_56 {cc : ByteArray} {pc a : Nat} (h : zU cc pc 56) (h1 : zU cc (pc + 1) a) : decode cc pc = .ok (.fstore a, 2) := zd_of (by
  show Except.bind ((Reader.u1 : Decoder Nat).runAt cc pc) _ = _
  rw [show (Reader.u1 : Decoder Nat).runAt cc pc = _ from h]
  (first | (show Except.bind ((Reader.u1 : Decoder Nat).runAt cc (pc + 1)) _ = _; rw [show (Reader.u1 : Decoder Nat).runAt cc (pc + 1) = _ from h1]) | (show Except.bind (Except.bind ((Reader.u1 : Decoder Nat).runAt cc (pc + 1)) _) _ = _; rw [show (Reader.u1 : Decoder Nat).runAt cc (pc + 1) = _ from h1]) | (show Except.bind (Except.bind (Except.bind ((Reader.u1 : Decoder Nat).runAt cc (pc + 1)) _) _) _ = _; rw [show (Reader.u1 : Decoder Nat).runAt cc (pc + 1) = _ from h1]))
  rfl)
theorem zd_57 {cc : ByteArray} {pc a : Nat} (h : zU cc pc 57) (h1 : zU cc (pc + 1) a) : decode cc pc = .ok (.dstore a, 2) := zd_of (by
  show Except.bind ((Reader.u1 : Decoder Nat).runAt cc pc) _ = _
  rw [show (Reader.u1 : Decoder Nat).runAt cc pc = _ from h]
  (first | (show Except.bind ((Reader.u1 : Decoder Nat).runAt cc (pc + 1)) _ = _; rw [show (Reader.u1 : Decoder Nat).runAt cc (pc + 1) = _ from h1]) | (show Except.bind (Except.bind ((Reader.u1 : Decoder Nat).runAt cc (pc + 1)) _) _ = _; rw [show (Reader.u1 : Decoder Nat).runAt cc (pc + 1) = _ from h1]) | (show Except.bind (Except.bind (Except.bind ((Reader.u1 : Decoder Nat).runAt cc (pc + 1)) _) _) _ = _; rw [show (Reader.u1 : Decoder Nat).runAt cc (pc + 1) = _ from h1]))
  rfl)
theorem zd_58 {cc : ByteArray} {pc a : Nat} (h : zU cc pc 58) (h1 : zU cc (pc + 1) a) : decode cc pc = .ok (.astore a, 2) := zd_of (by
  show Except.bind ((Reader.u1 : Decoder Nat).runAt cc pc) _ = _
  rw [show (Reader.u1 : Decoder Nat).runAt cc pc = _ from h]
  (first | (show Except.bind ((Reader.u1 : Decoder Nat).runAt cc (pc + 1)) _ = _; rw [show (Reader.u1 : Decoder Nat).runAt cc (pc + 1) = _ from h1]) | (show Except.bind (Except.bind ((Reader.u1 : Decoder Nat).runAt cc (pc + 1)) _) _ = _; rw [show (Reader.u1 : Decoder Nat).runAt cc (pc + 1) = _ from h1]) | (show Except.bind (Except.bind (Except.bind ((Reader.u1 : Decoder Nat).runAt cc (pc + 1)) _) _) _ = _; rw [show (Reader.u1 : Decoder Nat).runAt cc (pc + 1) = _ from h1]))
  rfl)
theorem zd_17 {cc : ByteArray} {pc a b : Nat} (h : zU cc pc 17) (h1 : zU cc (pc + 1) a) (h2 : zU cc (pc + 2) b) : decode cc pc = .ok (.sipush (Reader.signed 16 (a * 256 + b)), 3) := zd_of (by
  show Except.bind ((Reader.u1 : Decoder Nat).runAt cc pc) _ = _
  rw [show (Reader.u1 : Decoder Nat).runAt cc pc = _ from h]
  (first | (show Except.bind ((Reader.u1 : Decoder Nat).runAt cc (pc + 1)) _ = _; rw [show (Reader.u1 : Decoder Nat).runAt cc (pc + 1) = _ from h1]) | (show Except.bind (Except.bind ((Reader.u1 : Decoder Nat).runAt cc (pc + 1)) _) _ = _; rw [show (Reader.u1 : Decoder Nat).runAt cc (pc + 1) = _ from h1]) | (show Except.bind (Except.bind (Except.bind ((Reader.u1 : Decoder Nat).runAt cc (pc + 1)) _) _) _ = _; rw [show (Reader.u1 : Decoder Nat).runAt cc (pc + 1) = _ from h1]))
  (first | (show Except.bind ((Reader.u1 : Decoder Nat).runAt cc (pc + 2)) _ = _; rw [show (Reader.u1 : Decoder Nat).runAt cc (pc + 2) = _ from h2]) | (show Except.bind (Except.bind ((Reader.u1 : Decoder Nat).runAt cc (pc + 2)) _) _ = _; rw [show (Reader.u1 : Decoder Nat).runAt cc (pc + 2) = _ from h2]) | (show Except.bind (Except.bind (Except.bind ((Reader.u1 : Decoder Nat).runAt cc (pc + 2)) _) _) _ = _; rw [show (Reader.u1 : Decoder Nat).runAt cc (pc + 2) = _ from h2]))
  rfl)
theorem zd_19 {cc : ByteArray} {pc a b : Nat} (h : zU cc pc 19) (h1 : zU cc (pc + 1) a) (h2 : zU cc (pc + 2) b) : decode cc pc = .ok (.ldc_w (a * 256 + b), 3) := zd_of (by
  show Except.bind ((Reader.u1 : Decoder Nat).runAt cc pc) _ = _
  rw [show (Reader.u1 : Decoder Nat).runAt cc pc = _ from h]
  (first | (show Except.bind ((Reader.u1 : Decoder Nat).runAt cc (pc + 1)) _ = _; rw [show (Reader.u1 : Decoder Nat).runAt cc (pc + 1) = _ from h1]) | (show Except.bind (Except.bind ((Reader.u1 : Decoder Nat).runAt cc (pc + 1)) _) _ = _; rw [show (Reader.u1 : Decoder Nat).runAt cc (pc + 1) = _ from h1]) | (show Except.bind (Except.bind (Except.bind ((Reader.u1 : Decoder Nat).runAt cc (pc + 1)) _) _) _ = _; rw [show (Reader.u1 : Decoder Nat).runAt cc (pc + 1) = _ from h1]))
  (first | (show Except.bind ((Reader.u1 : Decoder Nat).runAt cc (pc + 2)) _ = _; rw [show (Reader.u1 : Decoder Nat).runAt cc (pc + 2) = _ from h2]) | (show Except.bind (Except.bind ((Reader.u1 : Decoder Nat).runAt cc (pc + 2)) _) _ = _; rw [show (Reader.u1 : Decoder Nat).runAt cc (pc + 2) = _ from h2]) | (show Except.bind (Except.bind (Except.bind ((Reader.u1 : Decoder Nat).runAt cc (pc + 2)) _) _) _ = _; rw [show (Reader.u1 : Decoder Nat).runAt cc (pc + 2) = _ from h2]))
  rfl)
theorem zd_20 {cc : ByteArray} {pc a b : Nat} (h : zU cc pc 20) (h1 : zU cc (pc + 1) a) (h2 : zU cc (pc + 2) b) : decode cc pc = .ok (.ldc2_w (a * 256 + b), 3) := zd_of (by
  show Except.bind ((Reader.u1 : Decoder Nat).runAt cc pc) _ = _
  rw [show (Reader.u1 : Decoder Nat).runAt cc pc = _ from h]
  (first | (show Except.bind ((Reader.u1 : Decoder Nat).runAt cc (pc + 1)) _ = _; rw [show (Reader.u1 : Decoder Nat).runAt cc (pc + 1) = _ from h1]) | (show Except.bind (Except.bind ((Reader.u1 : Decoder Nat).runAt cc (pc + 1)) _) _ = _; rw [show (Reader.u1 : Decoder Nat).runAt cc (pc + 1) = _ from h1]) | (show Except.bind (Except.bind (Except.bind ((Reader.u1 : Decoder Nat).runAt cc (pc + 1)) _) _) _ = _; rw [show (Reader.u1 : Decoder Nat).runAt cc (pc + 1) = _ from h1]))
  (first | (show Except.bind ((Reader.u1 : Decoder Nat).runAt cc (pc + 2)) _ = _; rw [show (Reader.u1 : Decoder Nat).runAt cc (pc + 2) = _ from h2]) | (show Except.bind (Except.bind ((Reader.u1 : Decoder Nat).runAt cc (pc + 2)) _) _ = _; rw [show (Reader.u1 : Decoder Nat).runAt cc (pc + 2) = _ from h2]) | (show Except.bind (Except.bind (Except.bind ((Reader.u1 : Decoder Nat).runAt cc (pc + 2)) _) _) _ = _; rw [show (Reader.u1 : Decoder Nat).runAt cc (pc + 2) = _ from h2]))
  rfl)
theorem zd_132 {cc : ByteArray} {pc a b : Nat} (h : zU cc pc 132) (h1 : zU cc (pc + 1) a) (h2 : zU cc (pc + 2) b) : decode cc pc = .ok (.iinc a (Reader.signed 8 b), 3) := zd_of (by
  show Except.bind ((Reader.u1 : Decoder Nat).runAt cc pc) _ = _
  rw [show (Reader.u1 : Decoder Nat).runAt cc pc = _ from h]
  (first | (show Except.bind ((Reader.u1 : Decoder Nat).runAt cc (pc + 1)) _ = _; rw [show (Reader.u1 : Decoder Nat).runAt cc (pc + 1) = _ from h1]) | (show Except.bind (Except.bind ((Reader.u1 : Decoder Nat).runAt cc (pc + 1)) _) _ = _; rw [show (Reader.u1 : Decoder Nat).runAt cc (pc + 1) = _ from h1]) | (show Except.bind (Except.bind (Except.bind ((Reader.u1 : Decoder Nat).runAt cc (pc + 1)) _) _) _ = _; rw [show (Reader.u1 : Decoder Nat).runAt cc (pc + 1) = _ from h1]))
  (first | (show Except.bind ((Reader.u1 : Decoder Nat).runAt cc (pc + 2)) _ = _; rw [show (Reader.u1 : Decoder Nat).runAt cc (pc + 2) = _ from h2]) | (show Except.bind (Except.bind ((Reader.u1 : Decoder Nat).runAt cc (pc + 2)) _) _ = _; rw [show (Reader.u1 : Decoder Nat).runAt cc (pc + 2) = _ from h2]) | (show Except.bind (Except.bind (Except.bind ((Reader.u1 : Decoder Nat).runAt cc (pc + 2)) _) _) _ = _; rw [show (Reader.u1 : Decoder Nat).runAt cc (pc + 2) = _ from h2]))
  rfl)
theorem zd_153 {cc : ByteArray} {pc a b : Nat} (h : zU cc pc 153) (h1 : zU cc (pc + 1) a) (h2 : zU cc (pc + 2) b) : decode cc pc = .ok (.ifCond .eq (Reader.signed 16 (a * 256 + b)), 3) := zd_of (by
  show Except.bind ((Reader.u1 : Decoder Nat).runAt cc pc) _ = _
  rw [show (Reader.u1 : Decoder Nat).runAt cc pc = _ from h]
  (first | (show Except.bind ((Reader.u1 : Decoder Nat).runAt cc (pc + 1)) _ = _; rw [show (Reader.u1 : Decoder Nat).runAt cc (pc + 1) = _ from h1]) | (show Except.bind (Except.bind ((Reader.u1 : Decoder Nat).runAt cc (pc + 1)) _) _ = _; rw [show (Reader.u1 : Decoder Nat).runAt cc (pc + 1) = _ from h1]) | (show Except.bind (Except.bind (Except.bind ((Reader.u1 : Decoder Nat).runAt cc (pc + 1)) _) _) _ = _; rw [show (Reader.u1 : Decoder Nat).runAt cc (pc + 1) = _ from h1]))
  (first | (show Except.bind ((Reader.u1 : Decoder Nat).runAt cc (pc + 2)) _ = _; rw [show (Reader.u1 : Decoder Nat).runAt cc (pc + 2) = _ from h2]) | (show Except.bind (Except.bind ((Reader.u1 : Decoder Nat).runAt cc (pc + 2)) _) _ = _; rw [show (Reader.u1 : Decoder Nat).runAt cc (pc + 2) = _ from h2]) | (show Except.bind (Except.bind (Except.bind ((Reader.u1 : Decoder Nat).runAt cc (pc + 2)) _) _) _ = _; rw [show (Reader.u1 : Decoder Nat).runAt cc (pc + 2) = _ from h2]))
  rfl)
theorem zd_154 {cc : ByteArray} {pc a b : Nat} (h : zU cc pc 154) (h1 : zU cc (pc + 1) a) (h2 : zU cc (pc + 2) b) : decode cc pc = .ok (.ifCond .ne (Reader.signed 16 (a * 256 + b)), 3) := zd_of (by
  show Except.bind ((Reader.u1 : Decoder Nat).runAt cc pc) _ = _
  rw [show (Reader.u1 : Decoder Nat).runAt cc pc = _ from h]
  (first | (show Except.bind ((Reader.u1 : Decoder Nat).runAt cc (pc + 1)) _ = _; rw [show (Reader.u1 : Decoder Nat).runAt cc (pc + 1) = _ from h1]) | (show Except.bind (Except.bind ((Reader.u1 : Decoder Nat).runAt cc (pc + 1)) _) _ = _; rw [show (Reader.u1 : Decoder Nat).runAt cc (pc + 1) = _ from h1]) | (show Except.bind (Except.bind (Except.bind ((Reader.u1 : Decoder Nat).runAt cc (pc + 1)) _) _) _ = _; rw [show (Reader.u1 : Decoder Nat).runAt cc (pc + 1) = _ from h1]))
  (first | (show Except.bind ((Reader.u1 : Decoder Nat).runAt cc (pc + 2)) _ = _; rw [show (Reader.u1 : Decoder Nat).runAt cc (pc + 2) = _ from h2]) | (show Except.bind (Except.bind ((Reader.u1 : Decoder Nat).runAt cc (pc + 2)) _) _ = _; rw [show (Reader.u1 : Decoder Nat).runAt cc (pc + 2) = _ from h2]) | (show Except.bind (Except.bind (Except.bind ((Reader.u1 : Decoder Nat).runAt cc (pc + 2)) _) _) _ = _; rw [show (Reader.u1 : Decoder Nat).runAt cc (pc + 2) = _ from h2]))
  rfl)
theorem zd_155 {cc : ByteArray} {pc a b : Nat} (h : zU cc pc 155) (h1 : zU cc (pc + 1) a) (h2 : zU cc (pc + 2) b) : decode cc pc = .ok (.ifCond .lt (Reader.signed 16 (a * 256 + b)), 3) := zd_of (by
  show Except.bind ((Reader.u1 : Decoder Nat).runAt cc pc) _ = _
  rw [show (Reader.u1 : Decoder Nat).runAt cc pc = _ from h]
  (first | (show Except.bind ((Reader.u1 : Decoder Nat).runAt cc (pc + 1)) _ = _; rw [show (Reader.u1 : Decoder Nat).runAt cc (pc + 1) = _ from h1]) | (show Except.bind (Except.bind ((Reader.u1 : Decoder Nat).runAt cc (pc + 1)) _) _ = _; rw [show (Reader.u1 : Decoder Nat).runAt cc (pc + 1) = _ from h1]) | (show Except.bind (Except.bind (Except.bind ((Reader.u1 : Decoder Nat).runAt cc (pc + 1)) _) _) _ = _; rw [show (Reader.u1 : Decoder Nat).runAt cc (pc + 1) = _ from h1]))
  (first | (show Except.bind ((Reader.u1 : Decoder Nat).runAt cc (pc + 2)) _ = _; rw [show (Reader.u1 : Decoder Nat).runAt cc (pc + 2) = _ from h2]) | (show Except.bind (Except.bind ((Reader.u1 : Decoder Nat).runAt cc (pc + 2)) _) _ = _; rw [show (Reader.u1 : Decoder Nat).runAt cc (pc + 2) = _ from h2]) | (show Except.bind (Except.bind (Except.bind ((Reader.u1 : Decoder Nat).runAt cc (pc + 2)) _) _) _ = _; rw [show (Reader.u1 : Decoder Nat).runAt cc (pc + 2) = _ from h2]))
  rfl)
theorem zd_156 {cc : ByteArray} {pc a b : Nat} (h : zU cc pc 156) (h1 : zU cc (pc + 1) a) (h2 : zU cc (pc + 2) b) : decode cc pc = .ok (.ifCond .ge (Reader.signed 16 (a * 256 + b)), 3) := zd_of (by
  show Except.bind ((Reader.u1 : Decoder Nat).runAt cc pc) _ = _
  rw [show (Reader.u1 : Decoder Nat).runAt cc pc = _ from h]
  (first | (show Except.bind ((Reader.u1 : Decoder Nat).runAt cc (pc + 1)) _ = _; rw [show (Reader.u1 : Decoder Nat).runAt cc (pc + 1) = _ from h1]) | (show Except.bind (Except.bind ((Reader.u1 : Decoder Nat).runAt cc (pc + 1)) _) _ = _; rw [show (Reader.u1 : Decoder Nat).runAt cc (pc + 1) = _ from h1]) | (show Except.bind (Except.bind (Except.bind ((Reader.u1 : Decoder Nat).runAt cc (pc + 1)) _) _) _ = _; rw [show (Reader.u1 : Decoder Nat).runAt cc (pc + 1) = _ from h1]))
  (first | (show Except.bind ((Reader.u1 : Decoder Nat).runAt cc (pc + 2)) _ = _; rw [show (Reader.u1 : Decoder Nat).runAt cc (pc + 2) = _ from h2]) | (show Except.bind (Except.bind ((Reader.u1 : Decoder Nat).runAt cc (pc + 2)) _) _ = _; rw [show (Reader.u1 : Decoder Nat).runAt cc (pc + 2) = _ from h2]) | (show Except.bind (Except.bind (Except.bind ((Reader.u1 : Decoder Nat).runAt cc (pc + 2)) _) _) _ = _; rw [show (Reader.u1 : Decoder Nat).runAt cc (pc + 2) = _ from h2]))
  rfl)
theorem zd_157 {cc : ByteArray} {pc a b : Nat} (h : zU cc pc 157) (h1 : zU cc (pc + 1) a) (h2 : zU cc (pc + 2) b) : decode cc pc = .ok (.ifCond .gt (Reader.signed 16 (a * 256 + b)), 3) := zd_of (by
  show Except.bind ((Reader.u1 : Decoder Nat).runAt cc pc) _ = _
  rw [show (Reader.u1 : Decoder Nat).runAt cc pc = _ from h]
  (first | (show Except.bind ((Reader.u1 : Decoder Nat).runAt cc (pc + 1)) _ = _; rw [show (Reader.u1 : Decoder Nat).runAt cc (pc + 1) = _ from h1]) | (show Except.bind (Except.bind ((Reader.u1 : Decoder Nat).runAt cc (pc + 1)) _) _ = _; rw [show (Reader.u1 : Decoder Nat).runAt cc (pc + 1) = _ from h1]) | (show Except.bind (Except.bind (Except.bind ((Reader.u1 : Decoder Nat).runAt cc (pc + 1)) _) _) _ = _; rw [show (Reader.u1 : Decoder Nat).runAt cc (pc + 1) = _ from h1]))
  (first | (show Except.bind ((Reader.u1 : Decoder Nat).runAt cc (pc + 2)) _ = _; rw [show (Reader.u1 : Decoder Nat).runAt cc (pc + 2) = _ from h2]) | (show Except.bind (Except.bind ((Reader.u1 : Decoder Nat).runAt cc (pc + 2)) _) _ = _; rw [show (Reader.u1 : Decoder Nat).runAt cc (pc + 2) = _ from h2]) | (show Except.bind (Except.bind (Except.bind ((Reader.u1 : Decoder Nat).runAt cc (pc + 2)) _) _) _ = _; rw [show (Reader.u1 : Decoder Nat).runAt cc (pc + 2) = _ from h2]))
  rfl)
theorem zd_158 {cc : ByteArray} {pc a b : Nat} (h : zU cc pc 158) (h1 : zU cc (pc + 1) a) (h2 : zU cc (pc + 2) b) : decode cc pc = .ok (.ifCond .le (Reader.signed 16 (a * 256 + b)), 3) := zd_of (by
  show Except.bind ((Reader.u1 : Decoder Nat).runAt cc pc) _ = _
  rw [show (Reader.u1 : Decoder Nat).runAt cc pc = _ from h]
  (first | (show Except.bind ((Reader.u1 : Decoder Nat).runAt cc (pc + 1)) _ = _; rw [show (Reader.u1 : Decoder Nat).runAt cc (pc + 1) = _ from h1]) | (show Except.bind (Except.bind ((Reader.u1 : Decoder Nat).runAt cc (pc + 1)) _) _ = _; rw [show (Reader.u1 : Decoder Nat).runAt cc (pc + 1) = _ from h1]) | (show Except.bind (Except.bind (Except.bind ((Reader.u1 : Decoder Nat).runAt cc (pc + 1)) _) _) _ = _; rw [show (Reader.u1 : Decoder Nat).runAt cc (pc + 1) = _ from h1]))
  (first | (show Except.bind ((Reader.u1 : Decoder Nat).runAt cc (pc + 2)) _ = _; rw [show (Reader.u1 : Decoder Nat).runAt cc (pc + 2) = _ from h2]) | (show Except.bind (Except.bind ((Reader.u1 : Decoder Nat).runAt cc (pc + 2)) _) _ = _; rw [show (Reader.u1 : Decoder Nat).runAt cc (pc + 2) = _ from h2]) | (show Except.bind (Except.bind (Except.bind ((Reader.u1 : Decoder Nat).runAt cc (pc + 2)) _) _) _ = _; rw [show (Reader.u1 : Decoder Nat).runAt cc (pc + 2) = _ from h2]))
  rfl)
theorem zd_159 {cc : ByteArray} {pc a b : Nat} (h : zU cc pc 159) (h1 : zU cc (pc + 1) a) (h2 : zU cc (pc + 2) b) : decode cc pc = .ok (.if_icmp .eq (Reader.signed 16 (a * 256 + b)), 3) := zd_of (by
  show Except.bind ((Reader.u1 : Decoder Nat).runAt cc pc) _ = _
  rw [show (Reader.u1 : Decoder Nat).runAt cc pc = _ from h]
  (first | (show Except.bind ((Reader.u1 : Decoder Nat).runAt cc (pc + 1)) _ = _; rw [show (Reader.u1 : Decoder Nat).runAt cc (pc + 1) = _ from h1]) | (show Except.bind (Except.bind ((Reader.u1 : Decoder Nat).runAt cc (pc + 1)) _) _ = _; rw [show (Reader.u1 : Decoder Nat).runAt cc (pc + 1) = _ from h1]) | (show Except.bind (Except.bind (Except.bind ((Reader.u1 : Decoder Nat).runAt cc (pc + 1)) _) _) _ = _; rw [show (Reader.u1 : Decoder Nat).runAt cc (pc + 1) = _ from h1]))
  (first | (show Except.bind ((Reader.u1 : Decoder Nat).runAt cc (pc + 2)) _ = _; rw [show (Reader.u1 : Decoder Nat).runAt cc (pc + 2) = _ from h2]) | (show Except.bind (Except.bind ((Reader.u1 : Decoder Nat).runAt cc (pc + 2)) _) _ = _; rw [show (Reader.u1 : Decoder Nat).runAt cc (pc + 2) = _ from h2]) | (show Except.bind (Except.bind (Except.bind ((Reader.u1 : Decoder Nat).runAt cc (pc + 2)) _) _) _ = _; rw [show (Reader.u1 : Decoder Nat).runAt cc (pc + 2) = _ from h2]))
  rfl)
theorem zd_160 {cc : ByteArray} {pc a b : Nat} (h : zU cc pc 160) (h1 : zU cc (pc + 1) a) (h2 : zU cc (pc + 2) b) : decode cc pc = .ok (.if_icmp .ne (Reader.signed 16 (a * 256 + b)), 3) := zd_of (by
  show Except.bind ((Reader.u1 : Decoder Nat).runAt cc pc) _ = _
  rw [show (Reader.u1 : Decoder Nat).runAt cc pc = _ from h]
  (first | (show Except.bind ((Reader.u1 : Decoder Nat).runAt cc (pc + 1)) _ = _; rw [show (Reader.u1 : Decoder Nat).runAt cc (pc + 1) = _ from h1]) | (show Except.bind (Except.bind ((Reader.u1 : Decoder Nat).runAt cc (pc + 1)) _) _ = _; rw [show (Reader.u1 : Decoder Nat).runAt cc (pc + 1) = _ from h1]) | (show Except.bind (Except.bind (Except.bind ((Reader.u1 : Decoder Nat).runAt cc (pc + 1)) _) _) _ = _; rw [show (Reader.u1 : Decoder Nat).runAt cc (pc + 1) = _ from h1]))
  (first | (show Except.bind ((Reader.u1 : Decoder Nat).runAt cc (pc + 2)) _ = _; rw [show (Reader.u1 : Decoder Nat).runAt cc (pc + 2) = _ from h2]) | (show Except.bind (Except.bind ((Reader.u1 : Decoder Nat).runAt cc (pc + 2)) _) _ = _; rw [show (Reader.u1 : Decoder Nat).runAt cc (pc + 2) = _ from h2]) | (show Except.bind (Except.bind (Except.bind ((Reader.u1 : Decoder Nat).runAt cc (pc + 2)) _) _) _ = _; rw [show (Reader.u1 : Decoder Nat).runAt cc (pc + 2) = _ from h2]))
  rfl)
theorem zd_161 {cc : ByteArray} {pc a b : Nat} (h : zU cc pc 161) (h1 : zU cc (pc + 1) a) (h2 : zU cc (pc + 2) b) : decode cc pc = .ok (.if_icmp .lt (Reader.signed 16 (a * 256 + b)), 3) := zd_of (by
  show Except.bind ((Reader.u1 : Decoder Nat).runAt cc pc) _ = _
  rw [show (Reader.u1 : Decoder Nat).runAt cc pc = _ from h]
  (first | (show Except.bind ((Reader.u1 : Decoder Nat).runAt cc (pc + 1)) _ = _; rw [show (Reader.u1 : Decoder Nat).runAt cc (pc + 1) = _ from h1]) | (show Except.bind (Except.bind ((Reader.u1 : Decoder Nat).runAt cc (pc + 1)) _) _ = _; rw [show (Reader.u1 : Decoder Nat).runAt cc (pc + 1) = _ from h1]) | (show Except.bind (Except.bind (Except.bind ((Reader.u1 : Decoder Nat).runAt cc (pc + 1)) _) _) _ = _; rw [show (Reader.u1 : Decoder Nat).runAt cc (pc + 1) = _ from h1]))
  (first | (show Except.bind ((Reader.u1 : Decoder Nat).runAt cc (pc + 2)) _ = _; rw [show (Reader.u1 : Decoder Nat).runAt cc (pc + 2) = _ from h2]) | (show Except.bind (Except.bind ((Reader.u1 : Decoder Nat).runAt cc (pc + 2)) _) _ = _; rw [show (Reader.u1 : Decoder Nat).runAt cc (pc + 2) = _ from h2]) | (show Except.bind (Except.bind (Except.bind ((Reader.u1 : Decoder Nat).runAt cc (pc + 2)) _) _) _ = _; rw [show (Reader.u1 : Decoder Nat).runAt cc (pc + 2) = _ from h2]))
  rfl)
theorem zd_162 {cc : ByteArray} {pc a b : Nat} (h : zU cc pc 162) (h1 : zU cc (pc + 1) a) (h2 : zU cc (pc + 2) b) : decode cc pc = .ok (.if_icmp .ge (Reader.signed 16 (a * 256 + b)), 3) := zd_of (by
  show Except.bind ((Reader.u1 : Decoder Nat).runAt cc pc) _ = _
  rw [show (Reader.u1 : Decoder Nat).runAt cc pc = _ from h]
  (first | (show Except.bind ((Reader.u1 : Decoder Nat).runAt cc (pc + 1)) _ = _; rw [show (Reader.u1 : Decoder Nat).runAt cc (pc + 1) = _ from h1]) | (show Except.bind (Except.bind ((Reader.u1 : Decoder Nat).runAt cc (pc + 1)) _) _ = _; rw [show (Reader.u1 : Decoder Nat).runAt cc (pc + 1) = _ from h1]) | (show Except.bind (Except.bind (Except.bind ((Reader.u1 : Decoder Nat).runAt cc (pc + 1)) _) _) _ = _; rw [show (Reader.u1 : Decoder Nat).runAt cc (pc + 1) = _ from h1]))
  (first | (show Except.bind ((Reader.u1 : Decoder Nat).runAt cc (pc + 2)) _ = _; rw [show (Reader.u1 : Decoder Nat).runAt cc (pc + 2) = _ from h2]) | (show Except.bind (Except.bind ((Reader.u1 : Decoder Nat).runAt cc (pc + 2)) _) _ = _; rw [show (Reader.u1 : Decoder Nat).runAt cc (pc + 2) = _ from h2]) | (show Except.bind (Except.bind (Except.bind ((Reader.u1 : Decoder Nat).runAt cc (pc + 2)) _) _) _ = _; rw [show (Reader.u1 : Decoder Nat).runAt cc (pc + 2) = _ from h2]))
  rfl)
theorem zd_163 {cc : ByteArray} {pc a b : Nat} (h : zU cc pc 163) (h1 : zU cc (pc + 1) a) (h2 : zU cc (pc + 2) b) : decode cc pc = .ok (.if_icmp .gt (Reader.signed 16 (a * 256 + b)), 3) := zd_of (by
  show Except.bind ((Reader.u1 : Decoder Nat).runAt cc pc) _ = _
  rw [show (Reader.u1 : Decoder Nat).runAt cc pc = _ from h]
  (first | (show Except.bind ((Reader.u1 : Decoder Nat).runAt cc (pc + 1)) _ = _; rw [show (Reader.u1 : Decoder Nat).runAt cc (pc + 1) = _ from h1]) | (show Except.bind (Except.bind ((Reader.u1 : Decoder Nat).runAt cc (pc + 1)) _) _ = _; rw [show (Reader.u1 : Decoder Nat).runAt cc (pc + 1) = _ from h1]) | (show Except.bind (Except.bind (Except.bind ((Reader.u1 : Decoder Nat).runAt cc (pc + 1)) _) _) _ = _; rw [show (Reader.u1 : Decoder Nat).runAt cc (pc + 1) = _ from h1]))
  (first | (show Except.bind ((Reader.u1 : Decoder Nat).runAt cc (pc + 2)) _ = _; rw [show (Reader.u1 : Decoder Nat).runAt cc (pc + 2) = _ from h2]) | (show Except.bind (Except.bind ((Reader.u1 : Decoder Nat).runAt cc (pc + 2)) _) _ = _; rw [show (Reader.u1 : Decoder Nat).runAt cc (pc + 2) = _ from h2]) | (show Except.bind (Except.bind (Except.bind ((Reader.u1 : Decoder Nat).runAt cc (pc + 2)) _) _) _ = _; rw [show (Reader.u1 : Decoder Nat).runAt cc (pc + 2) = _ from h2]))
  rfl)
theorem zd_164 {cc : ByteArray} {pc a b : Nat} (h : zU cc pc 164) (h1 : zU cc (pc + 1) a) (h2 : zU cc (pc + 2) b) : decode cc pc = .ok (.if_icmp .le (Reader.signed 16 (a * 256 + b)), 3) := zd_of (by
  show Except.bind ((Reader.u1 : Decoder Nat).runAt cc pc) _ = _
  rw [show (Reader.u1 : Decoder Nat).runAt cc pc = _ from h]
  (first | (show Except.bind ((Reader.u1 : Decoder Nat).runAt cc (pc + 1)) _ = _; rw [show (Reader.u1 : Decoder Nat).runAt cc (pc + 1) = _ from h1]) | (show Except.bind (Except.bind ((Reader.u1 : Decoder Nat).runAt cc (pc + 1)) _) _ = _; rw [show (Reader.u1 : Decoder Nat).runAt cc (pc + 1) = _ from h1]) | (show Except.bind (Except.bind (Except.bind ((Reader.u1 : Decoder Nat).runAt cc (pc + 1)) _) _) _ = _; rw [show (Reader.u1 : Decoder Nat).runAt cc (pc + 1) = _ from h1]))
  (first | (show Except.bind ((Reader.u1 : Decoder Nat).runAt cc (pc + 2)) _ = _; rw [show (Reader.u1 : Decoder Nat).runAt cc (pc + 2) = _ from h2]) | (show Except.bind (Except.bind ((Reader.u1 : Decoder Nat).runAt cc (pc + 2)) _) _ = _; rw [show (Reader.u1 : Decoder Nat).runAt cc (pc + 2) = _ from h2]) | (show Except.bind (Except.bind (Except.bind ((Reader.u1 : Decoder Nat).runAt cc (pc + 2)) _) _) _ = _; rw [show (Reader.u1 : Decoder Nat).runAt cc (pc + 2) = _ from h2]))
  rfl)
theorem zd_167 {cc : ByteArray} {pc a b : Nat} (h : zU cc pc 167) (h1 : zU cc (pc + 1) a) (h2 : zU cc (pc + 2) b) : decode cc pc = .ok (.goto (Reader.signed 16 (a * 256 + b)), 3) := zd_of (by
  show Except.bind ((Reader.u1 : Decoder Nat).runAt cc pc) _ = _
  rw [show (Reader.u1 : Decoder Nat).runAt cc pc = _ from h]
  (first | (show Except.bind ((Reader.u1 : Decoder Nat).runAt cc (pc + 1)) _ = _; rw [show (Reader.u1 : Decoder Nat).runAt cc (pc + 1) = _ from h1]) | (show Except.bind (Except.bind ((Reader.u1 : Decoder Nat).runAt cc (pc + 1)) _) _ = _; rw [show (Reader.u1 : Decoder Nat).runAt cc (pc + 1) = _ from h1]) | (show Except.bind (Except.bind (Except.bind ((Reader.u1 : Decoder Nat).runAt cc (pc + 1)) _) _) _ = _; rw [show (Reader.u1 : Decoder Nat).runAt cc (pc + 1) = _ from h1]))
  (first | (show Except.bind ((Reader.u1 : Decoder Nat).runAt cc (pc + 2)) _ = _; rw [show (Reader.u1 : Decoder Nat).runAt cc (pc + 2) = _ from h2]) | (show Except.bind (Except.bind ((Reader.u1 : Decoder Nat).runAt cc (pc + 2)) _) _ = _; rw [show (Reader.u1 : Decoder Nat).runAt cc (pc + 2) = _ from h2]) | (show Except.bind (Except.bind (Except.bind ((Reader.u1 : Decoder Nat).runAt cc (pc + 2)) _) _) _ = _; rw [show (Reader.u1 : Decoder Nat).runAt cc (pc + 2) = _ from h2]))
  rfl)
theorem zd_178 {cc : ByteArray} {pc a b : Nat} (h : zU cc pc 178) (h1 : zU cc (pc + 1) a) (h2 : zU cc (pc + 2) b) : decode cc pc = .ok (.getstatic (a * 256 + b), 3) := zd_of (by
  show Except.bind ((Reader.u1 : Decoder Nat).runAt cc pc) _ = _
  rw [show (Reader.u1 : Decoder Nat).runAt cc pc = _ from h]
  (first | (show Except.bind ((Reader.u1 : Decoder Nat).runAt cc (pc + 1)) _ = _; rw [show (Reader.u1 : Decoder Nat).runAt cc (pc + 1) = _ from h1]) | (show Except.bind (Except.bind ((Reader.u1 : Decoder Nat).runAt cc (pc + 1)) _) _ = _; rw [show (Reader.u1 : Decoder Nat).runAt cc (pc + 1) = _ from h1]) | (show Except.bind (Except.bind (Except.bind ((Reader.u1 : Decoder Nat).runAt cc (pc + 1)) _) _) _ = _; rw [show (Reader.u1 : Decoder Nat).runAt cc (pc + 1) = _ from h1]))
  (first | (show Except.bind ((Reader.u1 : Decoder Nat).runAt cc (pc + 2)) _ = _; rw [show (Reader.u1 : Decoder Nat).runAt cc (pc + 2) = _ from h2]) | (show Except.bind (Except.bind ((Reader.u1 : Decoder Nat).runAt cc (pc + 2)) _) _ = _; rw [show (Reader.u1 : Decoder Nat).runAt cc (pc + 2) = _ from h2]) | (show Except.bind (Except.bind (Except.bind ((Reader.u1 : Decoder Nat).runAt cc (pc + 2)) _) _) _ = _; rw [show (Reader.u1 : Decoder Nat).runAt cc (pc + 2) = _ from h2]))
  rfl)
theorem zd_180 {cc : ByteArray} {pc a b : Nat} (h : zU cc pc 180) (h1 : zU cc (pc + 1) a) (h2 : zU cc (pc + 2) b) : decode cc pc = .ok (.getfield (a * 256 + b), 3) := zd_of (by
  show Except.bind ((Reader.u1 : Decoder Nat).runAt cc pc) _ = _
  rw [show (Reader.u1 : Decoder Nat).runAt cc pc = _ from h]
  (first | (show Except.bind ((Reader.u1 : Decoder Nat).runAt cc (pc + 1)) _ = _; rw [show (Reader.u1 : Decoder Nat).runAt cc (pc + 1) = _ from h1]) | (show Except.bind (Except.bind ((Reader.u1 : Decoder Nat).runAt cc (pc + 1)) _) _ = _; rw [show (Reader.u1 : Decoder Nat).runAt cc (pc + 1) = _ from h1]) | (show Except.bind (Except.bind (Except.bind ((Reader.u1 : Decoder Nat).runAt cc (pc + 1)) _) _) _ = _; rw [show (Reader.u1 : Decoder Nat).runAt cc (pc + 1) = _ from h1]))
  (first | (show Except.bind ((Reader.u1 : Decoder Nat).runAt cc (pc + 2)) _ = _; rw [show (Reader.u1 : Decoder Nat).runAt cc (pc + 2) = _ from h2]) | (show Except.bind (Except.bind ((Reader.u1 : Decoder Nat).runAt cc (pc + 2)) _) _ = _; rw [show (Reader.u1 : Decoder Nat).runAt cc (pc + 2) = _ from h2]) | (show Except.bind (Except.bind (Except.bind ((Reader.u1 : Decoder Nat).runAt cc (pc + 2)) _) _) _ = _; rw [show (Reader.u1 : Decoder Nat).runAt cc (pc + 2) = _ from h2]))
  rfl)
theorem zd_181 {cc : ByteArray} {pc a b : Nat} (h : zU cc pc 181) (h1 : zU cc (pc + 1) a) (h2 : zU cc (pc + 2) b) : decode cc pc = .ok (.putfield (a * 256 + b), 3) := zd_of (by
  show Except.bind ((Reader.u1 : Decoder Nat).runAt cc pc) _ = _
  rw [show (Reader.u1 : Decoder Nat).runAt cc pc = _ from h]
  (first | (show Except.bind ((Reader.u1 : Decoder Nat).runAt cc (pc + 1)) _ = _; rw [show (Reader.u1 : Decoder Nat).runAt cc (pc + 1) = _ from h1]) | (show Except.bind (Except.bind ((Reader.u1 : Decoder Nat).runAt cc (pc + 1)) _) _ = _; rw [show (Reader.u1 : Decoder Nat).runAt cc (pc + 1) = _ from h1]) | (show Except.bind (Except.bind (Except.bind ((Reader.u1 : Decoder Nat).runAt cc (pc + 1)) _) _) _ = _; rw [show (Reader.u1 : Decoder Nat).runAt cc (pc + 1) = _ from h1]))
  (first | (show Except.bind ((Reader.u1 : Decoder Nat).runAt cc (pc + 2)) _ = _; rw [show (Reader.u1 : Decoder Nat).runAt cc (pc + 2) = _ from h2]) | (show Except.bind (Except.bind ((Reader.u1 : Decoder Nat).runAt cc (pc + 2)) _) _ = _; rw [show (Reader.u1 : Decoder Nat).runAt cc (pc + 2) = _ from h2]) | (show Except.bind (Except.bind (Except.bind ((Reader.u1 : Decoder Nat).runAt cc (pc + 2)) _) _) _ = _; rw [show (Reader.u1 : Decoder Nat).runAt cc (pc + 2) = _ from h2]))
  rfl)
theorem zd_182 {cc : ByteArray} {pc a b : Nat} (h : zU cc pc 182) (h1 : zU cc (pc + 1) a) (h2 : zU cc (pc + 2) b) : decode cc pc = .ok (.invokevirtual (a * 256 + b), 3) := zd_of (by
  show Except.bind ((Reader.u1 : Decoder Nat).runAt cc pc) _ = _
  rw [show (Reader.u1 : Decoder Nat).runAt cc pc = _ from h]
  (first | (show Except.bind ((Reader.u1 : Decoder Nat).runAt cc (pc + 1)) _ = _; rw [show (Reader.u1 : Decoder Nat).runAt cc (pc + 1) = _ from h1]) | (show Except.bind (Except.bind ((Reader.u1 : Decoder Nat).runAt cc (pc + 1)) _) _ = _; rw [show (Reader.u1 : Decoder Nat).runAt cc (pc + 1) = _ from h1]) | (show Except.bind (Except.bind (Except.bind ((Reader.u1 : Decoder Nat).runAt cc (pc + 1)) _) _) _ = _; rw [show (Reader.u1 : Decoder Nat).runAt cc (pc + 1) = _ from h1]))
  (first | (show Except.bind ((Reader.u1 : Decoder Nat).runAt cc (pc + 2)) _ = _; rw [show (Reader.u1 : Decoder Nat).runAt cc (pc + 2) = _ from h2]) | (show Except.bind (Except.bind ((Reader.u1 : Decoder Nat).runAt cc (pc + 2)) _) _ = _; rw [show (Reader.u1 : Decoder Nat).runAt cc (pc + 2) = _ from h2]) | (show Except.bind (Except.bind (Except.bind ((Reader.u1 : Decoder Nat).runAt cc (pc + 2)) _) _) _ = _; rw [show (Reader.u1 : Decoder Nat).runAt cc (pc + 2) = _ from h2]))
  rfl)
theorem zd_183 {cc : ByteArray} {pc a b : Nat} (h : zU cc pc 183) (h1 : zU cc (pc + 1) a) (h2 : zU cc (pc + 2) b) : decode cc pc = .ok (.invokespecial (a * 256 + b), 3) := zd_of (by
  show Except.bind ((Reader.u1 : Decoder Nat).runAt cc pc) _ = _
  rw [show (Reader.u1 : Decoder Nat).runAt cc pc = _ from h]
  (first | (show Except.bind ((Reader.u1 : Decoder Nat).runAt cc (pc + 1)) _ = _; rw [show (Reader.u1 : Decoder Nat).runAt cc (pc + 1) = _ from h1]) | (show Except.bind (Except.bind ((Reader.u1 : Decoder Nat).runAt cc (pc + 1)) _) _ = _; rw [show (Reader.u1 : Decoder Nat).runAt cc (pc + 1) = _ from h1]) | (show Except.bind (Except.bind (Except.bind ((Reader.u1 : Decoder Nat).runAt cc (pc + 1)) _) _) _ = _; rw [show (Reader.u1 : Decoder Nat).runAt cc (pc + 1) = _ from h1]))
  (first | (show Except.bind ((Reader.u1 : Decoder Nat).runAt cc (pc + 2)) _ = _; rw [show (Reader.u1 : Decoder Nat).runAt cc (pc + 2) = _ from h2]) | (show Except.bind (Except.bind ((Reader.u1 : Decoder Nat).runAt cc (pc + 2)) _) _ = _; rw [show (Reader.u1 : Decoder Nat).runAt cc (pc + 2) = _ from h2]) | (show Except.bind (Except.bind (Except.bind ((Reader.u1 : Decoder Nat).runAt cc (pc + 2)) _) _) _ = _; rw [show (Reader.u1 : Decoder Nat).runAt cc (pc + 2) = _ from h2]))
  rfl)
theorem zd_184 {cc : ByteArray} {pc a b : Nat} (h : zU cc pc 184) (h1 : zU cc (pc + 1) a) (h2 : zU cc (pc + 2) b) : decode cc pc = .ok (.invokestatic (a * 256 + b), 3) := zd_of (by
  show Except.bind ((Reader.u1 : Decoder Nat).runAt cc pc) _ = _
  rw [show (Reader.u1 : Decoder Nat).runAt cc pc = _ from h]
  (first | (show Except.bind ((Reader.u1 : Decoder Nat).runAt cc (pc + 1)) _ = _; rw [show (Reader.u1 : Decoder Nat).runAt cc (pc + 1) = _ from h1]) | (show Except.bind (Except.bind ((Reader.u1 : Decoder Nat).runAt cc (pc + 1)) _) _ = _; rw [show (Reader.u1 : Decoder Nat).runAt cc (pc + 1) = _ from h1]) | (show Except.bind (Except.bind (Except.bind ((Reader.u1 : Decoder Nat).runAt cc (pc + 1)) _) _) _ = _; rw [show (Reader.u1 : Decoder Nat).runAt cc (pc + 1) = _ from h1]))
  (first | (show Except.bind ((Reader.u1 : Decoder Nat).runAt cc (pc + 2)) _ = _; rw [show (Reader.u1 : Decoder Nat).runAt cc (pc + 2) = _ from h2]) | (show Except.bind (Except.bind ((Reader.u1 : Decoder Nat).runAt cc (pc + 2)) _) _ = _; rw [show (Reader.u1 : Decoder Nat).runAt cc (pc + 2) = _ from h2]) | (show Except.bind (Except.bind (Except.bind ((Reader.u1 : Decoder Nat).runAt cc (pc + 2)) _) _) _ = _; rw [show (Reader.u1 : Decoder Nat).runAt cc (pc + 2) = _ from h2]))
  rfl)
theorem zd_187 {cc : ByteArray} {pc a b : Nat} (h : zU cc pc 187) (h1 : zU cc (pc + 1) a) (h2 : zU cc (pc + 2) b) : decode cc pc = .ok (.new (a * 256 + b), 3) := zd_of (by
  show Except.bind ((Reader.u1 : Decoder Nat).runAt cc pc) _ = _
  rw [show (Reader.u1 : Decoder Nat).runAt cc pc = _ from h]
  (first | (show Except.bind ((Reader.u1 : Decoder Nat).runAt cc (pc + 1)) _ = _; rw [show (Reader.u1 : Decoder Nat).runAt cc (pc + 1) = _ from h1]) | (show Except.bind (Except.bind ((Reader.u1 : Decoder Nat).runAt cc (pc + 1)) _) _ = _; rw [show (Reader.u1 : Decoder Nat).runAt cc (pc + 1) = _ from h1]) | (show Except.bind (Except.bind (Except.bind ((Reader.u1 : Decoder Nat).runAt cc (pc + 1)) _) _) _ = _; rw [show (Reader.u1 : Decoder Nat).runAt cc (pc + 1) = _ from h1]))
  (first | (show Except.bind ((Reader.u1 : Decoder Nat).runAt cc (pc + 2)) _ = _; rw [show (Reader.u1 : Decoder Nat).runAt cc (pc + 2) = _ from h2]) | (show Except.bind (Except.bind ((Reader.u1 : Decoder Nat).runAt cc (pc + 2)) _) _ = _; rw [show (Reader.u1 : Decoder Nat).runAt cc (pc + 2) = _ from h2]) | (show Except.bind (Except.bind (Except.bind ((Reader.u1 : Decoder Nat).runAt cc (pc + 2)) _) _) _ = _; rw [show (Reader.u1 : Decoder Nat).runAt cc (pc + 2) = _ from h2]))
  rfl)
theorem zd_189 {cc : ByteArray} {pc a b : Nat} (h : zU cc pc 189) (h1 : zU cc (pc + 1) a) (h2 : zU cc (pc + 2) b) : decode cc pc = .ok (.anewarray (a * 256 + b), 3) := zd_of (by
  show Except.bind ((Reader.u1 : Decoder Nat).runAt cc pc) _ = _
  rw [show (Reader.u1 : Decoder Nat).runAt cc pc = _ from h]
  (first | (show Except.bind ((Reader.u1 : Decoder Nat).runAt cc (pc + 1)) _ = _; rw [show (Reader.u1 : Decoder Nat).runAt cc (pc + 1) = _ from h1]) | (show Except.bind (Except.bind ((Reader.u1 : Decoder Nat).runAt cc (pc + 1)) _) _ = _; rw [show (Reader.u1 : Decoder Nat).runAt cc (pc + 1) = _ from h1]) | (show Except.bind (Except.bind (Except.bind ((Reader.u1 : Decoder Nat).runAt cc (pc + 1)) _) _) _ = _; rw [show (Reader.u1 : Decoder Nat).runAt cc (pc + 1) = _ from h1]))
  (first | (show Except.bind ((Reader.u1 : Decoder Nat).runAt cc (pc + 2)) _ = _; rw [show (Reader.u1 : Decoder Nat).runAt cc (pc + 2) = _ from h2]) | (show Except.bind (Except.bind ((Reader.u1 : Decoder Nat).runAt cc (pc + 2)) _) _ = _; rw [show (Reader.u1 : Decoder Nat).runAt cc (pc + 2) = _ from h2]) | (show Except.bind (Except.bind (Except.bind ((Reader.u1 : Decoder Nat).runAt cc (pc + 2)) _) _) _ = _; rw [show (Reader.u1 : Decoder Nat).runAt cc (pc + 2) = _ from h2]))
  rfl)
theorem zd_198 {cc : ByteArray} {pc a b : Nat} (h : zU cc pc 198) (h1 : zU cc (pc + 1) a) (h2 : zU cc (pc + 2) b) : decode cc pc = .ok (.ifnull (Reader.signed 16 (a * 256 + b)), 3) := zd_of (by
  show Except.bind ((Reader.u1 : Decoder Nat).runAt cc pc) _ = _
  rw [show (Reader.u1 : Decoder Nat).runAt cc pc = _ from h]
  (first | (show Except.bind ((Reader.u1 : Decoder Nat).runAt cc (pc + 1)) _ = _; rw [show (Reader.u1 : Decoder Nat).runAt cc (pc + 1) = _ from h1]) | (show Except.bind (Except.bind ((Reader.u1 : Decoder Nat).runAt cc (pc + 1)) _) _ = _; rw [show (Reader.u1 : Decoder Nat).runAt cc (pc + 1) = _ from h1]) | (show Except.bind (Except.bind (Except.bind ((Reader.u1 : Decoder Nat).runAt cc (pc + 1)) _) _) _ = _; rw [show (Reader.u1 : Decoder Nat).runAt cc (pc + 1) = _ from h1]))
  (first | (show Except.bind ((Reader.u1 : Decoder Nat).runAt cc (pc + 2)) _ = _; rw [show (Reader.u1 : Decoder Nat).runAt cc (pc + 2) = _ from h2]) | (show Except.bind (Except.bind ((Reader.u1 : Decoder Nat).runAt cc (pc + 2)) _) _ = _; rw [show (Reader.u1 : Decoder Nat).runAt cc (pc + 2) = _ from h2]) | (show Except.bind (Except.bind (Except.bind ((Reader.u1 : Decoder Nat).runAt cc (pc + 2)) _) _) _ = _; rw [show (Reader.u1 : Decoder Nat).runAt cc (pc + 2) = _ from h2]))
  rfl)
theorem zd_199 {cc : ByteArray} {pc a b : Nat} (h : zU cc pc 199) (h1 : zU cc (pc + 1) a) (h2 : zU cc (pc + 2) b) : decode cc pc = .ok (.ifnonnull (Reader.signed 16 (a * 256 + b)), 3) := zd_of (by
  show Except.bind ((Reader.u1 : Decoder Nat).runAt cc pc) _ = _
  rw [show (Reader.u1 : Decoder Nat).runAt cc pc = _ from h]
  (first | (show Except.bind ((Reader.u1 : Decoder Nat).runAt cc (pc + 1)) _ = _; rw [show (Reader.u1 : Decoder Nat).runAt cc (pc + 1) = _ from h1]) | (show Except.bind (Except.bind ((Reader.u1 : Decoder Nat).runAt cc (pc + 1)) _) _ = _; rw [show (Reader.u1 : Decoder Nat).runAt cc (pc + 1) = _ from h1]) | (show Except.bind (Except.bind (Except.bind ((Reader.u1 : Decoder Nat).runAt cc (pc + 1)) _) _) _ = _; rw [show (Reader.u1 : Decoder Nat).runAt cc (pc + 1) = _ from h1]))
  (first | (show Except.bind ((Reader.u1 : Decoder Nat).runAt cc (pc + 2)) _ = _; rw [show (Reader.u1 : Decoder Nat).runAt cc (pc + 2) = _ from h2]) | (show Except.bind (Except.bind ((Reader.u1 : Decoder Nat).runAt cc (pc + 2)) _) _ = _; rw [show (Reader.u1 : Decoder Nat).runAt cc (pc + 2) = _ from h2]) | (show Except.bind (Except.bind (Except.bind ((Reader.u1 : Decoder Nat).runAt cc (pc + 2)) _) _) _ = _; rw [show (Reader.u1 : Decoder Nat).runAt cc (pc + 2) = _ from h2]))
  rfl)
def zdec0 (op : Nat) : Option (Instr × Nat) := bif Nat.blt op 80 then (bif Nat.blt op 38 then (bif Nat.blt op 26 then (bif Nat.blt op 6 then (bif Nat.blt op 3 then (bif Nat.blt op 2 then (bif Nat.beq op 1 then some (.aconst_null, 1) else none) else (bif Nat.beq op 2 then some (.iconst (-1), 1) else none)) else (bif Nat.blt op 4 then (bif Nat.beq op 3 then some (.iconst 0, 1) else none) else (bif Nat.blt op 5 then (bif Nat.beq op 4 then some (.iconst 1, 1) else none) else (bif Nat.beq op 5 then some (.iconst 2, 1) else none)))) else (bif Nat.blt op 9 then (bif Nat.blt op 7 then (bif Nat.beq op 6 then some (.iconst 3, 1) else none) else (bif Nat.blt op 8 then (bif Nat.beq op 7 then some (.iconst 4, 1) else none) else (bif Nat.beq op 8 then some (.iconst 5, 1) else none))) else (bif Nat.blt op 10 then (bif Nat.beq op 9 then some (.lconst 0, 1) else none) else (bif Nat.blt op 11 then (bif Nat.beq op 10 then some (.lconst 1, 1) else none) else (bif Nat.beq op 11 then some (.fconst 0, 1) else none))))) else (bif Nat.blt op 32 then (bif Nat.blt op 29 then (bif Nat.blt op 27 then (bif Nat.beq op 26 then some (.iload_n 0, 1) else none) else (bif Nat.blt op 28 then (bif Nat.beq op 27 then some (.iload_n 1, 1) else none) else (bif Nat.beq op 28 then some (.iload_n 2, 1) else none))) else (bif Nat.blt op 30 then (bif Nat.beq op 29 then some (.iload_n 3, 1) else none) else (bif Nat.blt op 31 then (bif Nat.beq op 30 then some (.lload_n 0, 1) else none) else (bif Nat.beq op 31 then some (.lload_n 1, 1) else none)))) else (bif Nat.blt op 35 then (bif Nat.blt op 33 then (bif Nat.beq op 32 then some (.lload_n 2, 1) else none) else (bif Nat.blt op 34 then (bif Nat.beq op 33 then some (.lload_n 3, 1) else none) else (bif Nat.beq op 34 then some (.fload_n 0, 1) else none))) else (bif Nat.blt op 36 then (bif Nat.beq op 35 then some (.fload_n 1, 1) else none) else (bif Nat.blt op 37 then (bif Nat.beq op 36 then some (.fload_n 2, 1) else none) else (bif Nat.beq op 37 then some (.fload_n 3, 1) else none)))))) else (bif Nat.blt op 50 then (bif Nat.blt op 43 then (bif Nat.blt op 40 then (bif Nat.blt op 39 then (bif Nat.beq op 38 then some (.dload_n 0, 1) else none) else (bif Nat.beq op 39 then some (.dload_n 1, 1) else none)) else (bif Nat.blt op 41 then (bif Nat.beq op 40 then some (.dload_n 2, 1) else none) else (bif Nat.blt op 42 then (bif Nat.beq op 41 then some (.dload_n 3, 1) else none) else (bif Nat.beq op 42 then some (.aload_n 0, 1) else none)))) else (bif Nat.blt op 46 then (bif Nat.blt op 44 then (bif Nat.beq op 43 then some (.aload_n 1, 1) else none) else (bif Nat.blt op 45 then (bif Nat.beq op 44 then some (.aload_n 2, 1) else none) else (bif Nat.beq op 45 then some (.aload_n 3, 1) else none))) else (bif Nat.blt op 47 then (bif Nat.beq op 46 then some (.iaload, 1) else none) else (bif Nat.blt op 49 then (bif Nat.beq op 47 then some (.laload, 1) else none) else (bif Nat.beq op 49 then some (.daload, 1) else none))))) else (bif Nat.blt op 62 then (bif Nat.blt op 59 then (bif Nat.blt op 51 then (bif Nat.beq op 50 then some (.aaload, 1) else none) else (bif Nat.blt op 52 then (bif Nat.beq op 51 then some (.baload, 1) else none) else (bif Nat.beq op 52 then some (.caload, 1) else none))) else (bif Nat.blt op 60 then (bif Nat.beq op 59 then some (.istore_n 0, 1) else none) else (bif Nat.blt op 61 then (bif Nat.beq op 60 then some (.istore_n 1, 1) else none) else (bif Nat.beq op 61 then some (.istore_n 2, 1) else none)))) else (bif Nat.blt op 77 then (bif Nat.blt op 75 then (bif Nat.beq op 62 then some (.istore_n 3, 1) else none) else (bif Nat.blt op 76 then (bif Nat.beq op 75 then some (.astore_n 0, 1) else none) else (bif Nat.beq op 76 then some (.astore_n 1, 1) else none))) else (bif Nat.blt op 78 then (bif Nat.beq op 77 then some (.astore_n 2, 1) else none) else (bif Nat.blt op 79 then (bif Nat.beq op 78 then some (.astore_n 3, 1) else none) else (bif Nat.beq op 79 then some (.iastore, 1) else none))))))) else (bif Nat.blt op 120 then (bif Nat.blt op 97 then (bif Nat.blt op 87 then (bif Nat.blt op 83 then (bif Nat.blt op 82 then (bif Nat.beq op 80 then some (.lastore, 1) else none) else (bif Nat.beq op 82 then some (.dastore, 1) else none)) else (bif Nat.blt op 84 then (bif Nat.beq op 83 then some (.aastore, 1) else none) else (bif Nat.blt op 85 then (bif Nat.beq op 84 then some (.bastore, 1) else none) else (bif Nat.beq op 85 then some (.castore, 1) else none)))) else (bif Nat.blt op 91 then (bif Nat.blt op 89 then (bif Nat.beq op 87 then some (.pop, 1) else none) else (bif Nat.blt op 90 then (bif Nat.beq op 89 then some (.dup, 1) else none) else (bif Nat.beq op 90 then some (.dup_x1, 1) else none))) else (bif Nat.blt op 92 then (bif Nat.beq op 91 then some (.dup_x2, 1) else none) else (bif Nat.blt op 96 then (bif Nat.beq op 92 then some (.dup2, 1) else none) else (bif Nat.beq op 96 then some (.iadd, 1) else none))))) else (bif Nat.blt op 110 then (bif Nat.blt op 104 then (bif Nat.blt op 100 then (bif Nat.beq op 97 then some (.ladd, 1) else none) else (bif Nat.blt op 101 then (bif Nat.beq op 100 then some (.isub, 1) else none) else (bif Nat.beq op 101 then some (.lsub, 1) else none))) else (bif Nat.blt op 108 then (bif Nat.beq op 104 then some (.imul, 1) else none) else (bif Nat.blt op 109 then (bif Nat.beq op 108 then some (.idiv, 1) else none) else (bif Nat.beq op 109 then some (.ldiv, 1) else none)))) else (bif Nat.blt op 113 then (bif Nat.blt op 111 then (bif Nat.beq op 110 then some (.fdiv, 1) else none) else (bif Nat.blt op 112 then (bif Nat.beq op 111 then some (.ddiv, 1) else none) else (bif Nat.beq op 112 then some (.irem, 1) else none))) else (bif Nat.blt op 116 then (bif Nat.beq op 113 then some (.lrem, 1) else none) else (bif Nat.blt op 117 then (bif Nat.beq op 116 then some (.ineg, 1) else none) else (bif Nat.beq op 117 then some (.lneg, 1) else none)))))) else (bif Nat.blt op 146 then (bif Nat.blt op 133 then (bif Nat.blt op 126 then (bif Nat.blt op 122 then (bif Nat.beq op 120 then some (.ishl, 1) else none) else (bif Nat.blt op 124 then (bif Nat.beq op 122 then some (.ishr, 1) else none) else (bif Nat.beq op 124 then some (.iushr, 1) else none))) else (bif Nat.blt op 128 then (bif Nat.beq op 126 then some (.iand, 1) else none) else (bif Nat.blt op 130 then (bif Nat.beq op 128 then some (.ior, 1) else none) else (bif Nat.beq op 130 then some (.ixor, 1) else none)))) else (bif Nat.blt op 136 then (bif Nat.blt op 134 then (bif Nat.beq op 133 then some (.i2l, 1) else none) else (bif Nat.blt op 135 then (bif Nat.beq op 134 then some (.i2f, 1) else none) else (bif Nat.beq op 135 then some (.i2d, 1) else none))) else (bif Nat.blt op 141 then (bif Nat.beq op 136 then some (.l2i, 1) else none) else (bif Nat.blt op 145 then (bif Nat.beq op 141 then some (.f2d, 1) else none) else (bif Nat.beq op 145 then some (.i2b, 1) else none))))) else (bif Nat.blt op 174 then (bif Nat.blt op 151 then (bif Nat.blt op 148 then (bif Nat.beq op 146 then some (.i2c, 1) else none) else (bif Nat.blt op 149 then (bif Nat.beq op 148 then some (.lcmp, 1) else none) else (bif Nat.beq op 149 then some (.fcmp .l, 1) else none))) else (bif Nat.blt op 172 then (bif Nat.beq op 151 then some (.dcmp .l, 1) else none) else (bif Nat.blt op 173 then (bif Nat.beq op 172 then some (.ireturn, 1) else none) else (bif Nat.beq op 173 then some (.lreturn, 1) else none)))) else (bif Nat.blt op 177 then (bif Nat.blt op 175 then (bif Nat.beq op 174 then some (.freturn, 1) else none) else (bif Nat.blt op 176 then (bif Nat.beq op 175 then some (.dreturn, 1) else none) else (bif Nat.beq op 176 then some (.areturn, 1) else none))) else (bif Nat.blt op 190 then (bif Nat.beq op 177 then some (.return_, 1) else none) else (bif Nat.blt op 191 then (bif Nat.beq op 190 then some (.arraylength, 1) else none) else (bif Nat.beq op 191 then some (.athrow, 1) else none)))))))
def zdec1 (op a : Nat) : Option (Instr × Nat) := bif Nat.blt op 24 then (bif Nat.blt op 21 then (bif Nat.blt op 18 then (bif Nat.beq op 16 then some (.bipush (Reader.signed 8 a), 2) else none) else (bif Nat.beq op 18 then some (.ldc a, 2) else none)) else (bif Nat.blt op 22 then (bif Nat.beq op 21 then some (.iload a, 2) else none) else (bif Nat.blt op 23 then (bif Nat.beq op 22 then some (.lload a, 2) else none) else (bif Nat.beq op 23 then some (.fload a, 2) else none)))) else (bif Nat.blt op 56 then (bif Nat.blt op 25 then (bif Nat.beq op 24 then some (.dload a, 2) else none) else (bif Nat.blt op 54 then (bif Nat.beq op 25 then some (.aload a, 2) else none) else (bif Nat.beq op 54 then some (.istore a, 2) else none))) else (bif Nat.blt op 57 then (bif Nat.beq op 56 then some (.fstore a, 2) else none) else (bif Nat.blt op 58 then (bif Nat.beq op 57 then some (.dstore a, 2) else none) else (bif Nat.beq op 58 then some (.astore a, 2) else none))))
def zdec2 (op a b : Nat) : Option (Instr × Nat) := bif Nat.blt op 162 then (bif Nat.blt op 155 then (bif Nat.blt op 132 then (bif Nat.blt op 19 then (bif Nat.beq op 17 then some (.sipush (Reader.signed 16 (a * 256 + b)), 3) else none) else (bif Nat.blt op 20 then (bif Nat.beq op 19 then some (.ldc_w (a * 256 + b), 3) else none) else (bif Nat.beq op 20 then some (.ldc2_w (a * 256 + b), 3) else none))) else (bif Nat.blt op 153 then (bif Nat.beq op 132 then some (.iinc a (Reader.signed 8 b), 3) else none) else (bif Nat.blt op 154 then (bif Nat.beq op 153 then some (.ifCond .eq (Reader.signed 16 (a * 256 + b)), 3) else none) else (bif Nat.beq op 154 then some (.ifCond .ne (Reader.signed 16 (a * 256 + b)), 3) else none)))) else (bif Nat.blt op 158 then (bif Nat.blt op 156 then (bif Nat.beq op 155 then some (.ifCond .lt (Reader.signed 16 (a * 256 + b)), 3) else none) else (bif Nat.blt op 157 then (bif Nat.beq op 156 then some (.ifCond .ge (Reader.signed 16 (a * 256 + b)), 3) else none) else (bif Nat.beq op 157 then some (.ifCond .gt (Reader.signed 16 (a * 256 + b)), 3) else none))) else (bif Nat.blt op 160 then (bif Nat.blt op 159 then (bif Nat.beq op 158 then some (.ifCond .le (Reader.signed 16 (a * 256 + b)), 3) else none) else (bif Nat.beq op 159 then some (.if_icmp .eq (Reader.signed 16 (a * 256 + b)), 3) else none)) else (bif Nat.blt op 161 then (bif Nat.beq op 160 then some (.if_icmp .ne (Reader.signed 16 (a * 256 + b)), 3) else none) else (bif Nat.beq op 161 then some (.if_icmp .lt (Reader.signed 16 (a * 256 + b)), 3) else none))))) else (bif Nat.blt op 182 then (bif Nat.blt op 167 then (bif Nat.blt op 163 then (bif Nat.beq op 162 then some (.if_icmp .ge (Reader.signed 16 (a * 256 + b)), 3) else none) else (bif Nat.blt op 164 then (bif Nat.beq op 163 then some (.if_icmp .gt (Reader.signed 16 (a * 256 + b)), 3) else none) else (bif Nat.beq op 164 then some (.if_icmp .le (Reader.signed 16 (a * 256 + b)), 3) else none))) else (bif Nat.blt op 180 then (bif Nat.blt op 178 then (bif Nat.beq op 167 then some (.goto (Reader.signed 16 (a * 256 + b)), 3) else none) else (bif Nat.beq op 178 then some (.getstatic (a * 256 + b), 3) else none)) else (bif Nat.blt op 181 then (bif Nat.beq op 180 then some (.getfield (a * 256 + b), 3) else none) else (bif Nat.beq op 181 then some (.putfield (a * 256 + b), 3) else none)))) else (bif Nat.blt op 187 then (bif Nat.blt op 183 then (bif Nat.beq op 182 then some (.invokevirtual (a * 256 + b), 3) else none) else (bif Nat.blt op 184 then (bif Nat.beq op 183 then some (.invokespecial (a * 256 + b), 3) else none) else (bif Nat.beq op 184 then some (.invokestatic (a * 256 + b), 3) else none))) else (bif Nat.blt op 198 then (bif Nat.blt op 189 then (bif Nat.beq op 187 then some (.new (a * 256 + b), 3) else none) else (bif Nat.beq op 189 then some (.anewarray (a * 256 + b), 3) else none)) else (bif Nat.blt op 199 then (bif Nat.beq op 198 then some (.ifnull (Reader.signed 16 (a * 256 + b)), 3) else none) else (bif Nat.beq op 199 then some (.ifnonnull (Reader.signed 16 (a * 256 + b)), 3) else none)))))
def zdec (bs : List Nat) : Option (Instr × Nat) := match bs with
  | [op] => zdec0 op
  | [op, a] => zdec1 op a
  | [op, a, b] => zdec2 op a b
  | _ => none
theorem zcond_beq {α : Type} {op k : Nat} {x y : Option α} {z : α} (h : (bif Nat.beq op k then x else y) = some z) (hy : y = none) : op = k ∧ x = some z := by
  cases e : Nat.beq op k with
  | true =>
    rw [e] at h
    exact ⟨Nat.eq_of_beq_eq_true e, h⟩
  | false =>
    rw [e, hy] at h
    cases h
theorem zcond_blt {α : Type} {op k : Nat} {x y : Option α} {z : α} {Q : Prop} (h : (bif Nat.blt op k then x else y) = some z) (h1 : x = some z → Q) (h2 : y = some z → Q) : Q := by
  cases e : Nat.blt op k with
  | true =>
    rw [e] at h
    exact h1 h
  | false =>
    rw [e] at h
    exact h2 h
theorem zdec0_ok {cc : ByteArray} {pc op : Nat} {r : Instr × Nat} (h : zU cc pc op) : zdec0 op = some r → decode cc pc = .ok r := fun e => zcond_blt e (fun e => zcond_blt e (fun e => zcond_blt e (fun e => zcond_blt e (fun e => zcond_blt e (fun e => zcond_blt e (fun e => by
                obtain ⟨rfl, e9⟩ := zcond_beq e rfl
                cases e9
                exact zd_1 h) (fun e => by
                obtain ⟨rfl, e9⟩ := zcond_beq e rfl
                cases e9
                exact zd_2 h)) (fun e => zcond_blt e (fun e => by
                obtain ⟨rfl, e9⟩ := zcond_beq e rfl
                cases e9
                exact zd_3 h) (fun e => zcond_blt e (fun e => by
                  obtain ⟨rfl, e9⟩ := zcond_beq e rfl
                  cases e9
                  exact zd_4 h) (fun e => by
                  obtain ⟨rfl, e9⟩ := zcond_beq e rfl
                  cases e9
                  exact zd_5 h)))) (fun e => zcond_blt e (fun e => zcond_blt e (fun e => by
                obtain ⟨rfl, e9⟩ := zcond_beq e rfl
                cases e9
                exact zd_6 h) (fun e => zcond_blt e (fun e => by
                  obtain ⟨rfl, e9⟩ := zcond_beq e rfl
                  cases e9
                  exact zd_7 h) (fun e => by
                  obtain ⟨rfl, e9⟩ := zcond_beq e rfl
                  cases e9
                  exact zd_8 h))) (fun e => zcond_blt e (fun e => by
                obtain ⟨rfl, e9⟩ := zcond_beq e rfl
                cases e9
                exact zd_9 h) (fun e => zcond_blt e (fun e => by
                  obtain ⟨rfl, e9⟩ := zcond_beq e rfl
                  cases e9
                  exact zd_10 h) (fun e => by
                  obtain ⟨rfl, e9⟩ := zcond_beq e rfl
                  cases e9
                  exact zd_11 h))))) (fun e => zcond_blt e (fun e => zcond_blt e (fun e => zcond_blt e (fun e => by
                obtain ⟨rfl, e9⟩ := zcond_beq e rfl
                cases e9
                exact zd_26 h) (fun e => zcond_blt e (fun e => by
                  obtain ⟨rfl, e9⟩ := zcond_beq e rfl
                  cases e9
                  exact zd_27 h) (fun e => by
                  obtain ⟨rfl, e9⟩ := zcond_beq e rfl
                  cases e9
                  exact zd_28 h))) (fun e => zcond_blt e (fun e => by
                obtain ⟨rfl, e9⟩ := zcond_beq e rfl
                cases e9
                exact zd_29 h) (fun e => zcond_blt e (fun e => by
                  obtain ⟨rfl, e9⟩ := zcond_beq e rfl
                  cases e9
                  exact zd_30 h) (fun e => by
                  obtain ⟨rfl, e9⟩ := zcond_beq e rfl
                  cases e9
                  exact zd_31 h)))) (fun e => zcond_blt e (fun e => zcond_blt e (fun e => by
                obtain ⟨rfl, e9⟩ := zcond_beq e rfl
                cases e9
                exact zd_32 h) (fun e => zcond_blt e (fun e => by
                  obtain ⟨rfl, e9⟩ := zcond_beq e rfl
                  cases e9
                  exact zd_33 h) (fun e => by
                  obtain ⟨rfl, e9⟩ := zcond_beq e rfl
                  cases e9
                  exact zd_34 h))) (fun e => zcond_blt e (fun e => by
                obtain ⟨rfl, e9⟩ := zcond_beq e rfl
                cases e9
                exact zd_35 h) (fun e => zcond_blt e (fun e => by
                  obtain ⟨rfl, e9⟩ := zcond_beq e rfl
                  cases e9
                  exact zd_36 h) (fun e => by
                  obtain ⟨rfl, e9⟩ := zcond_beq e rfl
                  cases e9
                  exact zd_37 h)))))) (fun e => zcond_blt e (fun e => zcond_blt e (fun e => zcond_blt e (fun e => zcond_blt e (fun e => by
                obtain ⟨rfl, e9⟩ := zcond_beq e rfl
                cases e9
                exact zd_38 h) (fun e => by
                obtain ⟨rfl, e9⟩ := zcond_beq e rfl
                cases e9
                exact zd_39 h)) (fun e => zcond_blt e (fun e => by
                obtain ⟨rfl, e9⟩ := zcond_beq e rfl
                cases e9
                exact zd_40 h) (fun e => zcond_blt e (fun e => by
                  obtain ⟨rfl, e9⟩ := zcond_beq e rfl
                  cases e9
                  exact zd_41 h) (fun e => by
                  obtain ⟨rfl, e9⟩ := zcond_beq e rfl
                  cases e9
                  exact zd_42 h)))) (fun e => zcond_blt e (fun e => zcond_blt e (fun e => by
                obtain ⟨rfl, e9⟩ := zcond_beq e rfl
                cases e9
                exact zd_43 h) (fun e => zcond_blt e (fun e => by
                  obtain ⟨rfl, e9⟩ := zcond_beq e rfl
                  cases e9
                  exact zd_44 h) (fun e => by
                  obtain ⟨rfl, e9⟩ := zcond_beq e rfl
                  cases e9
                  exact zd_45 h))) (fun e => zcond_blt e (fun e => by
                obtain ⟨rfl, e9⟩ := zcond_beq e rfl
                cases e9
                exact zd_46 h) (fun e => zcond_blt e (fun e => by
                  obtain ⟨rfl, e9⟩ := zcond_beq e rfl
                  cases e9
                  exact zd_47 h) (fun e => by
                  obtain ⟨rfl, e9⟩ := zcond_beq e rfl
                  cases e9
                  exact zd_49 h))))) (fun e => zcond_blt e (fun e => zcond_blt e (fun e => zcond_blt e (fun e => by
                obtain ⟨rfl, e9⟩ := zcond_beq e rfl
                cases e9
                exact zd_50 h) (fun e => zcond_blt e (fun e => by
                  obtain ⟨rfl, e9⟩ := zcond_beq e rfl
                  cases e9
                  exact zd_51 h) (fun e => by
                  obtain ⟨rfl, e9⟩ := zcond_beq e rfl
                  cases e9
                  exact zd_52 h))) (fun e => zcond_blt e (fun e => by
                obtain ⟨rfl, e9⟩ := zcond_beq e rfl
                cases e9
                exact zd_59 h) (fun e => zcond_blt e (fun e => by
                  obtain ⟨rfl, e9⟩ := zcond_beq e rfl
                  cases e9
                  exact zd_60 h) (fun e => by
                  obtain ⟨rfl, e9⟩ := zcond_beq e rfl
                  cases e9
                  exact zd_61 h)))) (fun e => zcond_blt e (fun e => zcond_blt e (fun e => by
                obtain ⟨rfl, e9⟩ := zcond_beq e rfl
                cases e9
                exact zd_62 h) (fun e => zcond_blt e (fun e => by
                  obtain ⟨rfl, e9⟩ := zcond_beq e rfl
                  cases e9
                  exact zd_75 h) (fun e => by
                  obtain ⟨rfl, e9⟩ := zcond_beq e rfl
                  cases e9
                  exact zd_76 h))) (fun e => zcond_blt e (fun e => by
                obtain ⟨rfl, e9⟩ := zcond_beq e rfl
                cases e9
                exact zd_77 h) (fun e => zcond_blt e (fun e => by
                  obtain ⟨rfl, e9⟩ := zcond_beq e rfl
                  cases e9
                  exact zd_78 h) (fun e => by
                  obtain ⟨rfl, e9⟩ := zcond_beq e rfl
                  cases e9
                  exact zd_79 h))))))) (fun e => zcond_blt e (fun e => zcond_blt e (fun e => zcond_blt e (fun e => zcond_blt e (fun e => zcond_blt e (fun e => by
                obtain ⟨rfl, e9⟩ := zcond_beq e rfl
                cases e9
                exact zd_80 h) (fun e => by
                obtain ⟨rfl, e9⟩ := zcond_beq e rfl
                cases e9
                exact zd_82 h)) (fun e => zcond_blt e (fun e => by
                obtain ⟨rfl, e9⟩ := zcond_beq e rfl
                cases e9
                exact zd_83 h) (fun e => zcond_blt e (fun e => by
                  obtain ⟨rfl, e9⟩ := zcond_beq e rfl
                  cases e9
                  exact zd_84 h) (fun e => by
                  obtain ⟨rfl, e9⟩ := zcond_beq e rfl
                  cases e9
                  exact zd_85 h)))) (fun e => zcond_blt e (fun e => zcond_blt e (fun e => by
                obtain ⟨rfl, e9⟩ := zcond_beq e rfl
                cases e9
                exact zd_87 h) (fun e => zcond_blt e (fun e => by
                  obtain ⟨rfl, e9⟩ := zcond_beq e rfl
                  cases e9
                  exact zd_89 h) (fun e => by
                  obtain ⟨rfl, e9⟩ := zcond_beq e rfl
                  cases e9
                  exact zd_90 h))) (fun e => zcond_blt e (fun e => by
                obtain ⟨rfl, e9⟩ := zcond_beq e rfl
                cases e9
                exact zd_91 h) (fun e => zcond_blt e (fun e => by
                  obtain ⟨rfl, e9⟩ := zcond_beq e rfl
                  cases e9
                  exact zd_92 h) (fun e => by
                  obtain ⟨rfl, e9⟩ := zcond_beq e rfl
                  cases e9
                  exact zd_96 h))))) (fun e => zcond_blt e (fun e => zcond_blt e (fun e => zcond_blt e (fun e => by
                obtain ⟨rfl, e9⟩ := zcond_beq e rfl
                cases e9
                exact zd_97 h) (fun e => zcond_blt e (fun e => by
                  obtain ⟨rfl, e9⟩ := zcond_beq e rfl
                  cases e9
                  exact zd_100 h) (fun e => by
                  obtain ⟨rfl, e9⟩ := zcond_beq e rfl
                  cases e9
                  exact zd_101 h))) (fun e => zcond_blt e (fun e => by
                obtain ⟨rfl, e9⟩ := zcond_beq e rfl
                cases e9
                exact zd_104 h) (fun e => zcond_blt e (fun e => by
                  obtain ⟨rfl, e9⟩ := zcond_beq e rfl
                  cases e9
                  exact zd_108 h) (fun e => by
                  obtain ⟨rfl, e9⟩ := zcond_beq e rfl
                  cases e9
                  exact zd_109 h)))) (fun e => zcond_blt e (fun e => zcond_blt e (fun e => by
                obtain ⟨rfl, e9⟩ := zcond_beq e rfl
                cases e9
                exact zd_110 h) (fun e => zcond_blt e (fun e => by
                  obtain ⟨rfl, e9⟩ := zcond_beq e rfl
                  cases e9
                  exact zd_111 h) (fun e => by
                  obtain ⟨rfl, e9⟩ := zcond_beq e rfl
                  cases e9
                  exact zd_112 h))) (fun e => zcond_blt e (fun e => by
                obtain ⟨rfl, e9⟩ := zcond_beq e rfl
                cases e9
                exact zd_113 h) (fun e => zcond_blt e (fun e => by
                  obtain ⟨rfl, e9⟩ := zcond_beq e rfl
                  cases e9
                  exact zd_116 h) (fun e => by
                  obtain ⟨rfl, e9⟩ := zcond_beq e rfl
                  cases e9
                  exact zd_117 h)))))) (fun e => zcond_blt e (fun e => zcond_blt e (fun e => zcond_blt e (fun e => zcond_blt e (fun e => by
                obtain ⟨rfl, e9⟩ := zcond_beq e rfl
                cases e9
                exact zd_120 h) (fun e => zcond_blt e (fun e => by
                  obtain ⟨rfl, e9⟩ := zcond_beq e rfl
                  cases e9
                  exact zd_122 h) (fun e => by
                  obtain ⟨rfl, e9⟩ := zcond_beq e rfl
                  cases e9
                  exact zd_124 h))) (fun e => zcond_blt e (fun e => by
                obtain ⟨rfl, e9⟩ := zcond_beq e rfl
                cases e9
                exact zd_126 h) (fun e => zcond_blt e (fun e => by
                  obtain ⟨rfl, e9⟩ := zcond_beq e rfl
                  cases e9
                  exact zd_128 h) (fun e => by
                  obtain ⟨rfl, e9⟩ := zcond_beq e rfl
                  cases e9
                  exact zd_130 h)))) (fun e => zcond_blt e (fun e => zcond_blt e (fun e => by
                obtain ⟨rfl, e9⟩ := zcond_beq e rfl
                cases e9
                exact zd_133 h) (fun e => zcond_blt e (fun e => by
                  obtain ⟨rfl, e9⟩ := zcond_beq e rfl
                  cases e9
                  exact zd_134 h) (fun e => by
                  obtain ⟨rfl, e9⟩ := zcond_beq e rfl
                  cases e9
                  exact zd_135 h))) (fun e => zcond_blt e (fun e => by
                obtain ⟨rfl, e9⟩ := zcond_beq e rfl
                cases e9
                exact zd_136 h) (fun e => zcond_blt e (fun e => by
                  obtain ⟨rfl, e9⟩ := zcond_beq e rfl
                  cases e9
                  exact zd_141 h) (fun e => by
                  obtain ⟨rfl, e9⟩ := zcond_beq e rfl
                  cases e9
                  exact zd_145 h))))) (fun e => zcond_blt e (fun e => zcond_blt e (fun e => zcond_blt e (fun e => by
                obtain ⟨rfl, e9⟩ := zcond_beq e rfl
                cases e9
                exact zd_146 h) (fun e => zcond_blt e (fun e => by
                  obtain ⟨rfl, e9⟩ := zcond_beq e rfl
                  cases e9
                  exact zd_148 h) (fun e => by
                  obtain ⟨rfl, e9⟩ := zcond_beq e rfl
                  cases e9
                  exact zd_149 h))) (fun e => zcond_blt e (fun e => by
                obtain ⟨rfl, e9⟩ := zcond_beq e rfl
                cases e9
                exact zd_151 h) (fun e => zcond_blt e (fun e => by
                  obtain ⟨rfl, e9⟩ := zcond_beq e rfl
                  cases e9
                  exact zd_172 h) (fun e => by
                  obtain ⟨rfl, e9⟩ := zcond_beq e rfl
                  cases e9
                  exact zd_173 h)))) (fun e => zcond_blt e (fun e => zcond_blt e (fun e => by
                obtain ⟨rfl, e9⟩ := zcond_beq e rfl
                cases e9
                exact zd_174 h) (fun e => zcond_blt e (fun e => by
                  obtain ⟨rfl, e9⟩ := zcond_beq e rfl
                  cases e9
                  exact zd_175 h) (fun e => by
                  obtain ⟨rfl, e9⟩ := zcond_beq e rfl
                  cases e9
                  exact zd_176 h))) (fun e => zcond_blt e (fun e => by
                obtain ⟨rfl, e9⟩ := zcond_beq e rfl
                cases e9
                exact zd_177 h) (fun e => zcond_blt e (fun e => by
                  obtain ⟨rfl, e9⟩ := zcond_beq e rfl
                  cases e9
                  exact zd_190 h) (fun e => by
                  obtain ⟨rfl, e9⟩ := zcond_beq e rfl
                  cases e9
                  exact zd_191 h)))))))
theorem zdec1_ok {cc : ByteArray} {pc op a : Nat} {r : Instr × Nat} (h : zU cc pc op) (h1 : zU cc (pc + 1) a) : zdec1 op a = some r → decode cc pc = .ok r := fun e => zcond_blt e (fun e => zcond_blt e (fun e => zcond_blt e (fun e => by
          obtain ⟨rfl, e9⟩ := zcond_beq e rfl
          cases e9
          exact zd_16 h h1) (fun e => by
          obtain ⟨rfl, e9⟩ := zcond_beq e rfl
          cases e9
          exact zd_18 h h1)) (fun e => zcond_blt e (fun e => by
          obtain ⟨rfl, e9⟩ := zcond_beq e rfl
          cases e9
          exact zd_21 h h1) (fun e => zcond_blt e (fun e => by
            obtain ⟨rfl, e9⟩ := zcond_beq e rfl
            cases e9
            exact zd_22 h h1) (fun e => by
            obtain ⟨rfl, e9⟩ := zcond_beq e rfl
            cases e9
            exact zd_23 h h1)))) (fun e => zcond_blt e (fun e => zcond_blt e (fun e => by
          obtain ⟨rfl, e9⟩ := zcond_beq e rfl
          cases e9
          exact zd_24 h h1) (fun e => zcond_blt e (fun e => by
            obtain ⟨rfl, e9⟩ := zcond_beq e rfl
            cases e9
            exact zd_25 h h1) (fun e => by
            obtain ⟨rfl, e9⟩ := zcond_beq e rfl
            cases e9
            exact zd_54 h h1))) (fun e => zcond_blt e (fun e => by
          obtain ⟨rfl, e9⟩ := zcond_beq e rfl
          cases e9
          exact zd_56 h h1) (fun e => zcond_blt e (fun e => by
            obtain ⟨rfl, e9⟩ := zcond_beq e rfl
            cases e9
            exact zd_57 h h1) (fun e => by
            obtain ⟨rfl, e9⟩ := zcond_beq e rfl
            cases e9
            exact zd_58 h h1))))
theorem zdec2_ok {cc : ByteArray} {pc op a b : Nat} {r : Instr × Nat} (h : zU cc pc op) (h1 : zU cc (pc + 1) a) (h2 : zU cc (pc + 2) b) : zdec2 op a b = some r → decode cc pc = .ok r := fun e => zcond_blt e (fun e => zcond_blt e (fun e => zcond_blt e (fun e => zcond_blt e (fun e => by
            obtain ⟨rfl, e9⟩ := zcond_beq e rfl
            cases e9
            exact zd_17 h h1 h2) (fun e => zcond_blt e (fun e => by
              obtain ⟨rfl, e9⟩ := zcond_beq e rfl
              cases e9
              exact zd_19 h h1 h2) (fun e => by
              obtain ⟨rfl, e9⟩ := zcond_beq e rfl
              cases e9
              exact zd_20 h h1 h2))) (fun e => zcond_blt e (fun e => by
            obtain ⟨rfl, e9⟩ := zcond_beq e rfl
            cases e9
            exact zd_132 h h1 h2) (fun e => zcond_blt e (fun e => by
              obtain ⟨rfl, e9⟩ := zcond_beq e rfl
              cases e9
              exact zd_153 h h1 h2) (fun e => by
              obtain ⟨rfl, e9⟩ := zcond_beq e rfl
              cases e9
              exact zd_154 h h1 h2)))) (fun e => zcond_blt e (fun e => zcond_blt e (fun e => by
            obtain ⟨rfl, e9⟩ := zcond_beq e rfl
            cases e9
            exact zd_155 h h1 h2) (fun e => zcond_blt e (fun e => by
              obtain ⟨rfl, e9⟩ := zcond_beq e rfl
              cases e9
              exact zd_156 h h1 h2) (fun e => by
              obtain ⟨rfl, e9⟩ := zcond_beq e rfl
              cases e9
              exact zd_157 h h1 h2))) (fun e => zcond_blt e (fun e => zcond_blt e (fun e => by
              obtain ⟨rfl, e9⟩ := zcond_beq e rfl
              cases e9
              exact zd_158 h h1 h2) (fun e => by
              obtain ⟨rfl, e9⟩ := zcond_beq e rfl
              cases e9
              exact zd_159 h h1 h2)) (fun e => zcond_blt e (fun e => by
              obtain ⟨rfl, e9⟩ := zcond_beq e rfl
              cases e9
              exact zd_160 h h1 h2) (fun e => by
              obtain ⟨rfl, e9⟩ := zcond_beq e rfl
              cases e9
              exact zd_161 h h1 h2))))) (fun e => zcond_blt e (fun e => zcond_blt e (fun e => zcond_blt e (fun e => by
            obtain ⟨rfl, e9⟩ := zcond_beq e rfl
            cases e9
            exact zd_162 h h1 h2) (fun e => zcond_blt e (fun e => by
              obtain ⟨rfl, e9⟩ := zcond_beq e rfl
              cases e9
              exact zd_163 h h1 h2) (fun e => by
              obtain ⟨rfl, e9⟩ := zcond_beq e rfl
              cases e9
              exact zd_164 h h1 h2))) (fun e => zcond_blt e (fun e => zcond_blt e (fun e => by
              obtain ⟨rfl, e9⟩ := zcond_beq e rfl
              cases e9
              exact zd_167 h h1 h2) (fun e => by
              obtain ⟨rfl, e9⟩ := zcond_beq e rfl
              cases e9
              exact zd_178 h h1 h2)) (fun e => zcond_blt e (fun e => by
              obtain ⟨rfl, e9⟩ := zcond_beq e rfl
              cases e9
              exact zd_180 h h1 h2) (fun e => by
              obtain ⟨rfl, e9⟩ := zcond_beq e rfl
              cases e9
              exact zd_181 h h1 h2)))) (fun e => zcond_blt e (fun e => zcond_blt e (fun e => by
            obtain ⟨rfl, e9⟩ := zcond_beq e rfl
            cases e9
            exact zd_182 h h1 h2) (fun e => zcond_blt e (fun e => by
              obtain ⟨rfl, e9⟩ := zcond_beq e rfl
              cases e9
              exact zd_183 h h1 h2) (fun e => by
              obtain ⟨rfl, e9⟩ := zcond_beq e rfl
              cases e9
              exact zd_184 h h1 h2))) (fun e => zcond_blt e (fun e => zcond_blt e (fun e => by
              obtain ⟨rfl, e9⟩ := zcond_beq e rfl
              cases e9
              exact zd_187 h h1 h2) (fun e => by
              obtain ⟨rfl, e9⟩ := zcond_beq e rfl
              cases e9
              exact zd_189 h h1 h2)) (fun e => zcond_blt e (fun e => by
              obtain ⟨rfl, e9⟩ := zcond_beq e rfl
              cases e9
              exact zd_198 h h1 h2) (fun e => by
              obtain ⟨rfl, e9⟩ := zcond_beq e rfl
              cases e9
              exact zd_199 h h1 h2)))))
/-- the bytes at a place -/
def zbs (cc : ByteArray) (pc : Nat) (bs : List Nat) : Prop := ∀ j b, bs[j]? = some b → cc.data.toList[pc + j]? = some (UInt8.ofNat b)
theorem zdec_ok {cc : ByteArray} {pc : Nat} {bs : List Nat} {r : Instr × Nat} (hb : zbs cc pc bs) (h8 : bs.all (fun b => Nat.blt b 256) = true) (h : zdec bs = some r) : decode cc pc = .ok r := by
  have key : ∀ j b, bs[j]? = some b → zU cc (pc + j) b := fun j b hj => zu1 (hb j b hj) (by
    have := List.all_eq_true.mp h8 b (List.mem_of_getElem? hj)
    simpa using this)
  unfold zdec at h
  split at h
  · exact zdec0_ok (key 0 _ rfl) h
  · exact zdec1_ok (key 0 _ rfl) (key 1 _ rfl) h
  · exact zdec2_ok (key 0 _ rfl) (key 1 _ rfl) (key 2 _ rfl) h
  · cases h
/-- the check with what is decoded given -/
def zckD (sw : Nat → List (Int × Nat)) (np : Nat → Nat) (ini : Bool) (cc : ByteArray) (ret : Option FieldType) (h0 : Bool) (T : List zE) (d : zD) (pc : Nat) (I : zI) : Bool :=
  match I with
  | (0, _, _, x, n) => zc0 d T x n
  | (1, _, _, _, n) => n == 1 && zdis d .aconst_null 1
  | (2, _, _, x, n) => zc2 d T x n
  | (3, _, _, _, n) => n == 1 && zdis d (.fconst 0) 1
  | (4, i, t, _, n) => zc4 d i t n
  | (5, i, t, _, n) => zc5 d i t n
  | (6, i, _, x, n) => n == 3 && zdis d (.iinc i x) 3
  | (7, o, _, _, n) => n == 1 && decide (o < 11) && zdis d (zbinI o) 1
  | (8, o, _, _, n) => n == 1 && decide (o < 4) && zdis d (zlbinI o) 1
  | (9, o, _, _, n) => n == 1 && decide (o < 9) && zdis d (zunI o) 1
  | (10, o, _, _, n) => n == 1 && decide (o < 5) && zdis d (zcmpI o) 1
  | (11, o, _, _, n) => n == 1 && decide (o < 5) && zdis d (zstkI o) 1
  | (12, o, j, _, _) => zc12 d pc o j
  | (13, o, j, _, _) => zc13 d pc o j
  | (14, o, j, _, _) => zc14 d pc o j
  | (15, _, j, _, _) => zc15 d pc j
  | (16, kd, j, _, _) => zc16 d T kd j
  | (17, kd, j, x, _) => zc17 d ini T kd j x
  | (18, kd, _, _, _) => decide (20 ≤ kd) && decide (kd < 29) && zdis d (zaldI kd) 1
  | (19, kd, _, _, _) => decide (20 ≤ kd) && decide (kd < 25) && zdis d (zastI kd) 1
  | (20, kd, ko, _, _) => zhas 16 kd ko 0 0 T && zdis d .aastore 1
  | (21, _, _, _, _) => zdis d .arraylength 1
  | (22, kd, _, _, _) => zc22 d T kd
  | (23, kd, _, _, n) => zc23 d T kd n
  | (24, i, j, x, _) => zc24 d np T i j x
  | (25, _, _, _, _) => zc25 d T
  | (26, t, _, _, _) => zc26 d ret t
  | (27, _, _, _, _) => zdis d .return_ 1 && decide (ret = none)
  | (30, i, _, _, _) => zc30 d T i
  | (31, o, _, _, _) => zc31 d T o
  | _ => zck sw np ini cc ret h0 T pc I
theorem zckD_eq {sw : Nat → List (Int × Nat)} {np : Nat → Nat} {ini : Bool} {cc : ByteArray} {ret : Option FieldType} {h0 : Bool} {T : List zE} {pc : Nat} {I : zI} : zckD sw np ini cc ret h0 T (decode cc pc) pc I = zck sw np ini cc ret h0 T pc I := by
  unfold zckD
  split <;> rfl
/-- one pass over a method's bytes and instructions -/
def zrow (sw : Nat → List (Int × Nat)) (np : Nat → Nat) (ini : Bool) (cc : ByteArray) (ret : Option FieldType) (h0 : Bool) (T : List zE) (pc : Nat) (bs : List Nat) (I : zI) : Bool :=
  Nat.ble 32 I.1 || (match zdec bs with
    | some r => zckD sw np ini cc ret h0 T (.ok r) pc I
    | none => zck sw np ini cc ret h0 T pc I)
def zpass (sw : Nat → List (Int × Nat)) (np : Nat → Nat) (ini : Bool) (cc : ByteArray) (ret : Option FieldType) (h0 : Bool) (T : List zE) : Nat → List (List Nat) → zM → Bool
  | _, [], [] => true
  | pc, bs :: B, q :: m => Nat.beq q.1 pc && (zrow sw np ini cc ret h0 T pc bs q.2 && zpass sw np ini cc ret h0 T (pc + bs.length) B m)
  | _, _, _ => false
theorem zpass_ok {sw : Nat → List (Int × Nat)} {np : Nat → Nat} {ini : Bool} {cc : ByteArray} {ret : Option FieldType} {h0 : Bool} {T : List zE} : ∀ (B : List (List Nat)) (m : zM) (pc : Nat), zpass sw np ini cc ret h0 T pc B m = true → (∀ j b, B.flatten[j]? = some b → cc.data.toList[pc + j]? = some (UInt8.ofNat b)) → (∀ bs ∈ B, bs.all (fun b => Nat.blt b 256) = true) → zall (zck sw np ini cc ret h0 T) m = true := by
  intro B
  induction B with
  | nil =>
    intro m pc h hb h8
    cases m with
    | nil => rfl
    | cons q m => cases h
  | cons bs B ih =>
    intro m pc h hb h8
    cases m with
    | nil => cases h
    | cons q m =>
      unfold zpass at h
      rw [Bool.and_eq_true, Bool.and_eq_true] at h
      obtain ⟨h1, h2, h3⟩ := h
      have hq : q.1 = pc := Nat.eq_of_beq_eq_true h1
      have hbs : zbs cc pc bs := fun j b hj => hb j b (by
        rw [List.flatten_cons, List.getElem?_append_left (List.getElem?_eq_some_iff.mp hj).1]
        exact hj)
      have rest := ih m (pc + bs.length) h3 (fun j b hj => by
        have := hb (bs.length + j) b (by
          rw [List.flatten_cons, List.getElem?_append_right (by omega), Nat.add_sub_cancel_left]
          exact hj)
        rw [Nat.add_assoc]
        exact this) (fun bs' hbs' => h8 bs' (List.mem_cons_of_mem _ hbs'))
      unfold zall at rest ⊢
      rw [List.all_cons, rest, Bool.and_true, hq]
      unfold zrow at h2
      rw [Bool.or_eq_true] at h2 ⊢
      rcases h2 with h2 | h2
      · exact Or.inl h2
      · refine Or.inr ?_
        split at h2
        · next r hr =>
          rw [← zckD_eq, zdec_ok hbs (h8 bs List.mem_cons_self) hr]
          exact h2
        · exact h2
theorem zpass_fin {sw : Nat → List (Int × Nat)} {np : Nat → Nat} {ini : Bool} {cc : ByteArray} {ret : Option FieldType} {h0 : Bool} {T : List zE} {B : List (List Nat)} {m : zM} (h : zpass sw np ini cc ret h0 T 0 B m = true) (hb : cc.data.toList = B.flatten.map UInt8.ofNat) (h8 : B.all (fun bs => bs.all (fun b => Nat.blt b 256)) = true) : zall (zck sw np ini cc ret h0 T) m = true :=
  zpass_ok B m 0 h (fun j b hj => by rw [hb, Nat.zero_add, List.getElem?_map, hj]; rfl) (fun bs hbs => List.all_eq_true.mp h8 bs hbs)
