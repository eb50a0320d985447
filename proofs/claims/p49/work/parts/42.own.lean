section ZCV
variable {sv : Nat → Value} {d : Nat} {h : zH}
/-- the cells of a new ExpressionCompiler -/
def zC1 (m : Nat) : List zC := ((1, [.ref (m + 1), .int (-1), .ref (m + 3), .ref (m + 7), .int 0, .ref (m + 11), .ref (m + 45), .ref (m + 54), .ref (m + 63), .ref (m + 75), .ref (m + 78), .ref (m + 85), .ref (m + 97)]) :: (2, [.ref (m + 2), .int 0, .int 0, .int 0]) :: (24, List.replicate 16 (.int 0)) :: (3, [.ref (m + 4), .int 0, .ref (m + 5), .int (nI 2), .int 0]) :: (25, List.replicate 6 .null) :: (4, [.ref (m + 6)]) :: (20, List.replicate 6 (.int 0)) :: (3, [.ref (m + 8), .int 0, .ref (m + 9), .int (nI 2), .int 0]) :: (25, List.replicate 6 .null) :: (4, [.ref (m + 10)]) :: (20, List.replicate 6 (.int 0)) :: (5, [.ref (m + 12), .int 0, .int 0]) :: (26, [.ref (m + 13), .ref (m + 17), .ref (m + 21), .ref (m + 25), .ref (m + 29), .ref (m + 33), .ref (m + 37), .ref (m + 41)]) :: (3, [.ref (m + 14), .int 0, .ref (m + 15), .int (nI 2), .int 0]) :: (25, List.replicate 6 .null) :: (4, [.ref (m + 16)]) :: (20, List.replicate 6 (.int 0)) :: (3, [.ref (m + 18), .int 0, .ref (m + 19), .int (nI 2), .int 0]) :: (25, List.replicate 6 .null) :: (4, [.ref (m + 20)]) :: (20, List.replicate 6 (.int 0)) :: (3, [.ref (m + 22), .int 0, .ref (m + 23), .int (nI 2), .int 0]) :: (25, List.replicate 6 .null) :: (4, [.ref (m + 24)]) :: (20, List.replicate 6 (.int 0)) :: (3, [.ref (m + 26), .int 0, .ref (m + 27), .int (nI 2), .int 0]) :: (25, List.replicate 6 .null) :: (4, [.ref (m + 28)]) :: (20, List.replicate 6 (.int 0)) :: (3, [.ref (m + 30), .int 0, .ref (m + 31), .int (nI 2), .int 0]) :: (25, List.replicate 6 .null) :: (4, [.ref (m + 32)]) :: (20, List.replicate 6 (.int 0)) :: (3, [.ref (m + 34), .int 0, .ref (m + 35), .int (nI 2), .int 0]) :: (25, List.replicate 6 .null) :: (4, [.ref (m + 36)]) :: (20, List.replicate 6 (.int 0)) :: (3, [.ref (m + 38), .int 0, .ref (m + 39), .int (nI 2), .int 0]) :: (25, List.replicate 6 .null) :: (4, [.ref (m + 40)]) :: (20, List.replicate 6 (.int 0)) :: (3, [.ref (m + 42), .int 0, .ref (m + 43), .int (nI 2), .int 0]) :: (25, List.replicate 6 .null) :: (4, [.ref (m + 44)]) :: (20, List.replicate 6 (.int 0)) :: (6, [.ref (m + 46), .ref (m + 48), .ref (m + 50), .ref (m + 52), .int (nI 124), .int 0]) :: (4, [.ref (m + 47)]) :: (20, List.replicate 124 (.int 0)) :: (4, [.ref (m + 49)]) :: (20, List.replicate 124 (.int 0)) :: (4, [.ref (m + 51)]) :: (20, List.replicate 124 (.int 0)) :: (4, [.ref (m + 53)]) :: (20, List.replicate 124 (.int 0)) :: (6, [.ref (m + 55), .ref (m + 57), .ref (m + 59), .ref (m + 61), .int (nI 124), .int 0]) :: (4, [.ref (m + 56)]) :: (20, List.replicate 124 (.int 0)) :: (4, [.ref (m + 58)]) :: (20, List.replicate 124 (.int 0)) :: (4, [.ref (m + 60)]) :: (20, List.replicate 124 (.int 0)) :: (4, [.ref (m + 62)]) :: (20, List.replicate 124 (.int 0)) :: (7, [.ref (m + 64), .ref (m + 66), .int 0]) :: (8, [.ref (m + 65), .int 0]) :: (21, List.replicate 60 (.int 0)) :: (6, [.ref (m + 67), .ref (m + 69), .ref (m + 71), .ref (m + 73), .int (nI 60), .int 0]) :: (4, [.ref (m + 68)]) :: (20, List.replicate 60 (.int 0)) :: (4, [.ref (m + 70)]) :: (20, List.replicate 60 (.int 0)) :: (4, [.ref (m + 72)]) :: (20, List.replicate 60 (.int 0)) :: (4, [.ref (m + 74)]) :: (20, List.replicate 60 (.int 0)) :: (9, [.ref (m + 76)]) :: (4, [.ref (m + 77)]) :: (20, List.replicate 124 (.int 0)) :: (10, [.ref (m + 79), .ref (m + 81), .ref (m + 83)]) :: (4, [.ref (m + 80)]) :: (20, List.replicate 124 (.int 0)) :: (4, [.ref (m + 82)]) :: (20, List.replicate 124 (.int 0)) :: (4, [.ref (m + 84)]) :: (20, List.replicate 124 (.int 0)) :: (11, [.ref (m + 86), .ref (m + 95)]) :: (6, [.ref (m + 87), .ref (m + 89), .ref (m + 91), .ref (m + 93), .int (nI 62), .int 0]) :: (4, [.ref (m + 88)]) :: (20, List.replicate 62 (.int 0)) :: (4, [.ref (m + 90)]) :: (20, List.replicate 62 (.int 0)) :: (4, [.ref (m + 92)]) :: (20, List.replicate 62 (.int 0)) :: (4, [.ref (m + 94)]) :: (20, List.replicate 62 (.int 0)) :: (4, [.ref (m + 96)]) :: (20, List.replicate 31 (.int 0)) :: (12, [.ref (m + 105), .ref (m + 107), .ref (m + 109), .ref (m + 111), .ref (m + 113), .int 0, .ref (m + 98), .ref (m + 115), .ref (m + 117), .int 0]) :: (10, [.ref (m + 99), .ref (m + 101), .ref (m + 103)]) :: (4, [.ref (m + 100)]) :: (20, List.replicate 124 (.int 0)) :: (4, [.ref (m + 102)]) :: (20, List.replicate 124 (.int 0)) :: (4, [.ref (m + 104)]) :: (20, List.replicate 124 (.int 0)) :: (4, [.ref (m + 106)]) :: (20, List.replicate 62 (.int 0)) :: (4, [.ref (m + 108)]) :: (20, List.replicate 62 (.int 0)) :: (4, [.ref (m + 110)]) :: (20, List.replicate 62 (.int 0)) :: (4, [.ref (m + 112)]) :: (20, List.replicate 62 (.int 0)) :: (4, [.ref (m + 114)]) :: (20, List.replicate 62 (.int 0)) :: (4, [.ref (m + 116)]) :: (20, List.replicate 7 (.int 0)) :: (4, [.ref (m + 118)]) :: (20, List.replicate 11 (.int 0)) :: [])
set_option maxRecDepth 100000 in
set_option maxHeartbeats 4000000 in
theorem c_new (hs : sv 0 = .int (nI 1)) : zcall zP sv (d + 5) 23 [.ref h.2.1] (zext h [(1, [.null, .int 0, .null, .null, .int 0, .null, .null, .null, .null, .null, .null, .null, .null])] 13) = some (.inl none, zext h (zC1 h.2.1) 3070) := by
  rw [c_EC (r := h.2.1) zext_0 (by rw [zext_sz]; show h.2.1 < h.2.1 + 1; omega) hs]
  unfold zC1
  simp (maxSteps := 2000000) only [zup_0, zext_ext, zext_sz, List.length_cons, List.length_nil, Nat.reduceAdd, Nat.zero_add, Nat.add_assoc, List.nil_append, List.cons_append]
theorem zr0_0 {S : Nat} : (zext h (zC1 h.2.1) S).1 h.2.1 = (1, [.ref (h.2.1 + 1), .int (-1), .ref (h.2.1 + 3), .ref (h.2.1 + 7), .int 0, .ref (h.2.1 + 11), .ref (h.2.1 + 45), .ref (h.2.1 + 54), .ref (h.2.1 + 63), .ref (h.2.1 + 75), .ref (h.2.1 + 78), .ref (h.2.1 + 85), .ref (h.2.1 + 97)]) := zext_0
theorem zr0_1 {S : Nat} : (zext h (zC1 h.2.1) S).1 (h.2.1 + 1) = (2, [.ref (h.2.1 + 2), .int 0, .int 0, .int 0]) := zext_1 (k := 1) rfl
theorem zr0_2 {S : Nat} : (zext h (zC1 h.2.1) S).1 (h.2.1 + 2) = (24, List.replicate 16 (.int 0)) := zext_1 (k := 2) rfl
theorem zr0_3 {S : Nat} : (zext h (zC1 h.2.1) S).1 (h.2.1 + 3) = (3, [.ref (h.2.1 + 4), .int 0, .ref (h.2.1 + 5), .int (nI 2), .int 0]) := zext_1 (k := 3) rfl
theorem zr0_4 {S : Nat} : (zext h (zC1 h.2.1) S).1 (h.2.1 + 4) = (25, List.replicate 6 .null) := zext_1 (k := 4) rfl
theorem zr0_5 {S : Nat} : (zext h (zC1 h.2.1) S).1 (h.2.1 + 5) = (4, [.ref (h.2.1 + 6)]) := zext_1 (k := 5) rfl
theorem zr0_6 {S : Nat} : (zext h (zC1 h.2.1) S).1 (h.2.1 + 6) = (20, List.replicate 6 (.int 0)) := zext_1 (k := 6) rfl
theorem zr0_7 {S : Nat} : (zext h (zC1 h.2.1) S).1 (h.2.1 + 7) = (3, [.ref (h.2.1 + 8), .int 0, .ref (h.2.1 + 9), .int (nI 2), .int 0]) := zext_1 (k := 7) rfl
theorem zr0_8 {S : Nat} : (zext h (zC1 h.2.1) S).1 (h.2.1 + 8) = (25, List.replicate 6 .null) := zext_1 (k := 8) rfl
theorem zr0_9 {S : Nat} : (zext h (zC1 h.2.1) S).1 (h.2.1 + 9) = (4, [.ref (h.2.1 + 10)]) := zext_1 (k := 9) rfl
theorem zr0_10 {S : Nat} : (zext h (zC1 h.2.1) S).1 (h.2.1 + 10) = (20, List.replicate 6 (.int 0)) := zext_1 (k := 10) rfl
theorem zr0_11 {S : Nat} : (zext h (zC1 h.2.1) S).1 (h.2.1 + 11) = (5, [.ref (h.2.1 + 12), .int 0, .int 0]) := zext_1 (k := 11) rfl
theorem zr0_12 {S : Nat} : (zext h (zC1 h.2.1) S).1 (h.2.1 + 12) = (26, [.ref (h.2.1 + 13), .ref (h.2.1 + 17), .ref (h.2.1 + 21), .ref (h.2.1 + 25), .ref (h.2.1 + 29), .ref (h.2.1 + 33), .ref (h.2.1 + 37), .ref (h.2.1 + 41)]) := zext_1 (k := 12) rfl
theorem zr0_13 {S : Nat} : (zext h (zC1 h.2.1) S).1 (h.2.1 + 13) = (3, [.ref (h.2.1 + 14), .int 0, .ref (h.2.1 + 15), .int (nI 2), .int 0]) := zext_1 (k := 13) rfl
theorem zr0_14 {S : Nat} : (zext h (zC1 h.2.1) S).1 (h.2.1 + 14) = (25, List.replicate 6 .null) := zext_1 (k := 14) rfl
theorem zr0_15 {S : Nat} : (zext h (zC1 h.2.1) S).1 (h.2.1 + 15) = (4, [.ref (h.2.1 + 16)]) := zext_1 (k := 15) rfl
theorem zr0_16 {S : Nat} : (zext h (zC1 h.2.1) S).1 (h.2.1 + 16) = (20, List.replicate 6 (.int 0)) := zext_1 (k := 16) rfl
theorem zr0_17 {S : Nat} : (zext h (zC1 h.2.1) S).1 (h.2.1 + 17) = (3, [.ref (h.2.1 + 18), .int 0, .ref (h.2.1 + 19), .int (nI 2), .int 0]) := zext_1 (k := 17) rfl
theorem zr0_18 {S : Nat} : (zext h (zC1 h.2.1) S).1 (h.2.1 + 18) = (25, List.replicate 6 .null) := zext_1 (k := 18) rfl
theorem zr0_19 {S : Nat} : (zext h (zC1 h.2.1) S).1 (h.2.1 + 19) = (4, [.ref (h.2.1 + 20)]) := zext_1 (k := 19) rfl
theorem zr0_20 {S : Nat} : (zext h (zC1 h.2.1) S).1 (h.2.1 + 20) = (20, List.replicate 6 (.int 0)) := zext_1 (k := 20) rfl
theorem zr0_21 {S : Nat} : (zext h (zC1 h.2.1) S).1 (h.2.1 + 21) = (3, [.ref (h.2.1 + 22), .int 0, .ref (h.2.1 + 23), .int (nI 2), .int 0]) := zext_1 (k := 21) rfl
theorem zr0_22 {S : Nat} : (zext h (zC1 h.2.1) S).1 (h.2.1 + 22) = (25, List.replicate 6 .null) := zext_1 (k := 22) rfl
theorem zr0_23 {S : Nat} : (zext h (zC1 h.2.1) S).1 (h.2.1 + 23) = (4, [.ref (h.2.1 + 24)]) := zext_1 (k := 23) rfl
theorem zr0_24 {S : Nat} : (zext h (zC1 h.2.1) S).1 (h.2.1 + 24) = (20, List.replicate 6 (.int 0)) := zext_1 (k := 24) rfl
theorem zr0_25 {S : Nat} : (zext h (zC1 h.2.1) S).1 (h.2.1 + 25) = (3, [.ref (h.2.1 + 26), .int 0, .ref (h.2.1 + 27), .int (nI 2), .int 0]) := zext_1 (k := 25) rfl
theorem zr0_26 {S : Nat} : (zext h (zC1 h.2.1) S).1 (h.2.1 + 26) = (25, List.replicate 6 .null) := zext_1 (k := 26) rfl
theorem zr0_27 {S : Nat} : (zext h (zC1 h.2.1) S).1 (h.2.1 + 27) = (4, [.ref (h.2.1 + 28)]) := zext_1 (k := 27) rfl
theorem zr0_28 {S : Nat} : (zext h (zC1 h.2.1) S).1 (h.2.1 + 28) = (20, List.replicate 6 (.int 0)) := zext_1 (k := 28) rfl
theorem zr0_29 {S : Nat} : (zext h (zC1 h.2.1) S).1 (h.2.1 + 29) = (3, [.ref (h.2.1 + 30), .int 0, .ref (h.2.1 + 31), .int (nI 2), .int 0]) := zext_1 (k := 29) rfl
theorem zr0_30 {S : Nat} : (zext h (zC1 h.2.1) S).1 (h.2.1 + 30) = (25, List.replicate 6 .null) := zext_1 (k := 30) rfl
theorem zr0_31 {S : Nat} : (zext h (zC1 h.2.1) S).1 (h.2.1 + 31) = (4, [.ref (h.2.1 + 32)]) := zext_1 (k := 31) rfl
theorem zr0_32 {S : Nat} : (zext h (zC1 h.2.1) S).1 (h.2.1 + 32) = (20, List.replicate 6 (.int 0)) := zext_1 (k := 32) rfl
theorem zr0_33 {S : Nat} : (zext h (zC1 h.2.1) S).1 (h.2.1 + 33) = (3, [.ref (h.2.1 + 34), .int 0, .ref (h.2.1 + 35), .int (nI 2), .int 0]) := zext_1 (k := 33) rfl
theorem zr0_34 {S : Nat} : (zext h (zC1 h.2.1) S).1 (h.2.1 + 34) = (25, List.replicate 6 .null) := zext_1 (k := 34) rfl
theorem zr0_35 {S : Nat} : (zext h (zC1 h.2.1) S).1 (h.2.1 + 35) = (4, [.ref (h.2.1 + 36)]) := zext_1 (k := 35) rfl
theorem zr0_36 {S : Nat} : (zext h (zC1 h.2.1) S).1 (h.2.1 + 36) = (20, List.replicate 6 (.int 0)) := zext_1 (k := 36) rfl
theorem zr0_37 {S : Nat} : (zext h (zC1 h.2.1) S).1 (h.2.1 + 37) = (3, [.ref (h.2.1 + 38), .int 0, .ref (h.2.1 + 39), .int (nI 2), .int 0]) := zext_1 (k := 37) rfl
theorem zr0_38 {S : Nat} : (zext h (zC1 h.2.1) S).1 (h.2.1 + 38) = (25, List.replicate 6 .null) := zext_1 (k := 38) rfl
theorem zr0_39 {S : Nat} : (zext h (zC1 h.2.1) S).1 (h.2.1 + 39) = (4, [.ref (h.2.1 + 40)]) := zext_1 (k := 39) rfl
theorem zr0_40 {S : Nat} : (zext h (zC1 h.2.1) S).1 (h.2.1 + 40) = (20, List.replicate 6 (.int 0)) := zext_1 (k := 40) rfl
theorem zr0_41 {S : Nat} : (zext h (zC1 h.2.1) S).1 (h.2.1 + 41) = (3, [.ref (h.2.1 + 42), .int 0, .ref (h.2.1 + 43), .int (nI 2), .int 0]) := zext_1 (k := 41) rfl
theorem zr0_42 {S : Nat} : (zext h (zC1 h.2.1) S).1 (h.2.1 + 42) = (25, List.replicate 6 .null) := zext_1 (k := 42) rfl
theorem zr0_43 {S : Nat} : (zext h (zC1 h.2.1) S).1 (h.2.1 + 43) = (4, [.ref (h.2.1 + 44)]) := zext_1 (k := 43) rfl
theorem zr0_44 {S : Nat} : (zext h (zC1 h.2.1) S).1 (h.2.1 + 44) = (20, List.replicate 6 (.int 0)) := zext_1 (k := 44) rfl
theorem zr0_45 {S : Nat} : (zext h (zC1 h.2.1) S).1 (h.2.1 + 45) = (6, [.ref (h.2.1 + 46), .ref (h.2.1 + 48), .ref (h.2.1 + 50), .ref (h.2.1 + 52), .int (nI 124), .int 0]) := zext_1 (k := 45) rfl
theorem zr0_46 {S : Nat} : (zext h (zC1 h.2.1) S).1 (h.2.1 + 46) = (4, [.ref (h.2.1 + 47)]) := zext_1 (k := 46) rfl
theorem zr0_47 {S : Nat} : (zext h (zC1 h.2.1) S).1 (h.2.1 + 47) = (20, List.replicate 124 (.int 0)) := zext_1 (k := 47) rfl
theorem zr0_48 {S : Nat} : (zext h (zC1 h.2.1) S).1 (h.2.1 + 48) = (4, [.ref (h.2.1 + 49)]) := zext_1 (k := 48) rfl
theorem zr0_49 {S : Nat} : (zext h (zC1 h.2.1) S).1 (h.2.1 + 49) = (20, List.replicate 124 (.int 0)) := zext_1 (k := 49) rfl
theorem zr0_50 {S : Nat} : (zext h (zC1 h.2.1) S).1 (h.2.1 + 50) = (4, [.ref (h.2.1 + 51)]) := zext_1 (k := 50) rfl
theorem zr0_51 {S : Nat} : (zext h (zC1 h.2.1) S).1 (h.2.1 + 51) = (20, List.replicate 124 (.int 0)) := zext_1 (k := 51) rfl
theorem zr0_52 {S : Nat} : (zext h (zC1 h.2.1) S).1 (h.2.1 + 52) = (4, [.ref (h.2.1 + 53)]) := zext_1 (k := 52) rfl
theorem zr0_53 {S : Nat} : (zext h (zC1 h.2.1) S).1 (h.2.1 + 53) = (20, List.replicate 124 (.int 0)) := zext_1 (k := 53) rfl
theorem zr0_54 {S : Nat} : (zext h (zC1 h.2.1) S).1 (h.2.1 + 54) = (6, [.ref (h.2.1 + 55), .ref (h.2.1 + 57), .ref (h.2.1 + 59), .ref (h.2.1 + 61), .int (nI 124), .int 0]) := zext_1 (k := 54) rfl
theorem zr0_55 {S : Nat} : (zext h (zC1 h.2.1) S).1 (h.2.1 + 55) = (4, [.ref (h.2.1 + 56)]) := zext_1 (k := 55) rfl
theorem zr0_56 {S : Nat} : (zext h (zC1 h.2.1) S).1 (h.2.1 + 56) = (20, List.replicate 124 (.int 0)) := zext_1 (k := 56) rfl
theorem zr0_57 {S : Nat} : (zext h (zC1 h.2.1) S).1 (h.2.1 + 57) = (4, [.ref (h.2.1 + 58)]) := zext_1 (k := 57) rfl
theorem zr0_58 {S : Nat} : (zext h (zC1 h.2.1) S).1 (h.2.1 + 58) = (20, List.replicate 124 (.int 0)) := zext_1 (k := 58) rfl
theorem zr0_59 {S : Nat} : (zext h (zC1 h.2.1) S).1 (h.2.1 + 59) = (4, [.ref (h.2.1 + 60)]) := zext_1 (k := 59) rfl
theorem zr0_60 {S : Nat} : (zext h (zC1 h.2.1) S).1 (h.2.1 + 60) = (20, List.replicate 124 (.int 0)) := zext_1 (k := 60) rfl
theorem zr0_61 {S : Nat} : (zext h (zC1 h.2.1) S).1 (h.2.1 + 61) = (4, [.ref (h.2.1 + 62)]) := zext_1 (k := 61) rfl
theorem zr0_62 {S : Nat} : (zext h (zC1 h.2.1) S).1 (h.2.1 + 62) = (20, List.replicate 124 (.int 0)) := zext_1 (k := 62) rfl
theorem zr0_63 {S : Nat} : (zext h (zC1 h.2.1) S).1 (h.2.1 + 63) = (7, [.ref (h.2.1 + 64), .ref (h.2.1 + 66), .int 0]) := zext_1 (k := 63) rfl
theorem zr0_64 {S : Nat} : (zext h (zC1 h.2.1) S).1 (h.2.1 + 64) = (8, [.ref (h.2.1 + 65), .int 0]) := zext_1 (k := 64) rfl
theorem zr0_65 {S : Nat} : (zext h (zC1 h.2.1) S).1 (h.2.1 + 65) = (21, List.replicate 60 (.int 0)) := zext_1 (k := 65) rfl
theorem zr0_66 {S : Nat} : (zext h (zC1 h.2.1) S).1 (h.2.1 + 66) = (6, [.ref (h.2.1 + 67), .ref (h.2.1 + 69), .ref (h.2.1 + 71), .ref (h.2.1 + 73), .int (nI 60), .int 0]) := zext_1 (k := 66) rfl
theorem zr0_67 {S : Nat} : (zext h (zC1 h.2.1) S).1 (h.2.1 + 67) = (4, [.ref (h.2.1 + 68)]) := zext_1 (k := 67) rfl
theorem zr0_68 {S : Nat} : (zext h (zC1 h.2.1) S).1 (h.2.1 + 68) = (20, List.replicate 60 (.int 0)) := zext_1 (k := 68) rfl
theorem zr0_69 {S : Nat} : (zext h (zC1 h.2.1) S).1 (h.2.1 + 69) = (4, [.ref (h.2.1 + 70)]) := zext_1 (k := 69) rfl
theorem zr0_70 {S : Nat} : (zext h (zC1 h.2.1) S).1 (h.2.1 + 70) = (20, List.replicate 60 (.int 0)) := zext_1 (k := 70) rfl
theorem zr0_71 {S : Nat} : (zext h (zC1 h.2.1) S).1 (h.2.1 + 71) = (4, [.ref (h.2.1 + 72)]) := zext_1 (k := 71) rfl
theorem zr0_72 {S : Nat} : (zext h (zC1 h.2.1) S).1 (h.2.1 + 72) = (20, List.replicate 60 (.int 0)) := zext_1 (k := 72) rfl
theorem zr0_73 {S : Nat} : (zext h (zC1 h.2.1) S).1 (h.2.1 + 73) = (4, [.ref (h.2.1 + 74)]) := zext_1 (k := 73) rfl
theorem zr0_74 {S : Nat} : (zext h (zC1 h.2.1) S).1 (h.2.1 + 74) = (20, List.replicate 60 (.int 0)) := zext_1 (k := 74) rfl
theorem zr0_75 {S : Nat} : (zext h (zC1 h.2.1) S).1 (h.2.1 + 75) = (9, [.ref (h.2.1 + 76)]) := zext_1 (k := 75) rfl
theorem zr0_76 {S : Nat} : (zext h (zC1 h.2.1) S).1 (h.2.1 + 76) = (4, [.ref (h.2.1 + 77)]) := zext_1 (k := 76) rfl
theorem zr0_77 {S : Nat} : (zext h (zC1 h.2.1) S).1 (h.2.1 + 77) = (20, List.replicate 124 (.int 0)) := zext_1 (k := 77) rfl
theorem zr0_78 {S : Nat} : (zext h (zC1 h.2.1) S).1 (h.2.1 + 78) = (10, [.ref (h.2.1 + 79), .ref (h.2.1 + 81), .ref (h.2.1 + 83)]) := zext_1 (k := 78) rfl
theorem zr0_79 {S : Nat} : (zext h (zC1 h.2.1) S).1 (h.2.1 + 79) = (4, [.ref (h.2.1 + 80)]) := zext_1 (k := 79) rfl
theorem zr0_80 {S : Nat} : (zext h (zC1 h.2.1) S).1 (h.2.1 + 80) = (20, List.replicate 124 (.int 0)) := zext_1 (k := 80) rfl
theorem zr0_81 {S : Nat} : (zext h (zC1 h.2.1) S).1 (h.2.1 + 81) = (4, [.ref (h.2.1 + 82)]) := zext_1 (k := 81) rfl
theorem zr0_82 {S : Nat} : (zext h (zC1 h.2.1) S).1 (h.2.1 + 82) = (20, List.replicate 124 (.int 0)) := zext_1 (k := 82) rfl
theorem zr0_83 {S : Nat} : (zext h (zC1 h.2.1) S).1 (h.2.1 + 83) = (4, [.ref (h.2.1 + 84)]) := zext_1 (k := 83) rfl
theorem zr0_84 {S : Nat} : (zext h (zC1 h.2.1) S).1 (h.2.1 + 84) = (20, List.replicate 124 (.int 0)) := zext_1 (k := 84) rfl
theorem zr0_85 {S : Nat} : (zext h (zC1 h.2.1) S).1 (h.2.1 + 85) = (11, [.ref (h.2.1 + 86), .ref (h.2.1 + 95)]) := zext_1 (k := 85) rfl
theorem zr0_86 {S : Nat} : (zext h (zC1 h.2.1) S).1 (h.2.1 + 86) = (6, [.ref (h.2.1 + 87), .ref (h.2.1 + 89), .ref (h.2.1 + 91), .ref (h.2.1 + 93), .int (nI 62), .int 0]) := zext_1 (k := 86) rfl
theorem zr0_87 {S : Nat} : (zext h (zC1 h.2.1) S).1 (h.2.1 + 87) = (4, [.ref (h.2.1 + 88)]) := zext_1 (k := 87) rfl
theorem zr0_88 {S : Nat} : (zext h (zC1 h.2.1) S).1 (h.2.1 + 88) = (20, List.replicate 62 (.int 0)) := zext_1 (k := 88) rfl
theorem zr0_89 {S : Nat} : (zext h (zC1 h.2.1) S).1 (h.2.1 + 89) = (4, [.ref (h.2.1 + 90)]) := zext_1 (k := 89) rfl
theorem zr0_90 {S : Nat} : (zext h (zC1 h.2.1) S).1 (h.2.1 + 90) = (20, List.replicate 62 (.int 0)) := zext_1 (k := 90) rfl
theorem zr0_91 {S : Nat} : (zext h (zC1 h.2.1) S).1 (h.2.1 + 91) = (4, [.ref (h.2.1 + 92)]) := zext_1 (k := 91) rfl
theorem zr0_92 {S : Nat} : (zext h (zC1 h.2.1) S).1 (h.2.1 + 92) = (20, List.replicate 62 (.int 0)) := zext_1 (k := 92) rfl
theorem zr0_93 {S : Nat} : (zext h (zC1 h.2.1) S).1 (h.2.1 + 93) = (4, [.ref (h.2.1 + 94)]) := zext_1 (k := 93) rfl
theorem zr0_94 {S : Nat} : (zext h (zC1 h.2.1) S).1 (h.2.1 + 94) = (20, List.replicate 62 (.int 0)) := zext_1 (k := 94) rfl
theorem zr0_95 {S : Nat} : (zext h (zC1 h.2.1) S).1 (h.2.1 + 95) = (4, [.ref (h.2.1 + 96)]) := zext_1 (k := 95) rfl
theorem zr0_96 {S : Nat} : (zext h (zC1 h.2.1) S).1 (h.2.1 + 96) = (20, List.replicate 31 (.int 0)) := zext_1 (k := 96) rfl
theorem zr0_97 {S : Nat} : (zext h (zC1 h.2.1) S).1 (h.2.1 + 97) = (12, [.ref (h.2.1 + 105), .ref (h.2.1 + 107), .ref (h.2.1 + 109), .ref (h.2.1 + 111), .ref (h.2.1 + 113), .int 0, .ref (h.2.1 + 98), .ref (h.2.1 + 115), .ref (h.2.1 + 117), .int 0]) := zext_1 (k := 97) rfl
theorem zr0_98 {S : Nat} : (zext h (zC1 h.2.1) S).1 (h.2.1 + 98) = (10, [.ref (h.2.1 + 99), .ref (h.2.1 + 101), .ref (h.2.1 + 103)]) := zext_1 (k := 98) rfl
theorem zr0_99 {S : Nat} : (zext h (zC1 h.2.1) S).1 (h.2.1 + 99) = (4, [.ref (h.2.1 + 100)]) := zext_1 (k := 99) rfl
theorem zr0_100 {S : Nat} : (zext h (zC1 h.2.1) S).1 (h.2.1 + 100) = (20, List.replicate 124 (.int 0)) := zext_1 (k := 100) rfl
theorem zr0_101 {S : Nat} : (zext h (zC1 h.2.1) S).1 (h.2.1 + 101) = (4, [.ref (h.2.1 + 102)]) := zext_1 (k := 101) rfl
theorem zr0_102 {S : Nat} : (zext h (zC1 h.2.1) S).1 (h.2.1 + 102) = (20, List.replicate 124 (.int 0)) := zext_1 (k := 102) rfl
theorem zr0_103 {S : Nat} : (zext h (zC1 h.2.1) S).1 (h.2.1 + 103) = (4, [.ref (h.2.1 + 104)]) := zext_1 (k := 103) rfl
theorem zr0_104 {S : Nat} : (zext h (zC1 h.2.1) S).1 (h.2.1 + 104) = (20, List.replicate 124 (.int 0)) := zext_1 (k := 104) rfl
theorem zr0_105 {S : Nat} : (zext h (zC1 h.2.1) S).1 (h.2.1 + 105) = (4, [.ref (h.2.1 + 106)]) := zext_1 (k := 105) rfl
theorem zr0_106 {S : Nat} : (zext h (zC1 h.2.1) S).1 (h.2.1 + 106) = (20, List.replicate 62 (.int 0)) := zext_1 (k := 106) rfl
theorem zr0_107 {S : Nat} : (zext h (zC1 h.2.1) S).1 (h.2.1 + 107) = (4, [.ref (h.2.1 + 108)]) := zext_1 (k := 107) rfl
theorem zr0_108 {S : Nat} : (zext h (zC1 h.2.1) S).1 (h.2.1 + 108) = (20, List.replicate 62 (.int 0)) := zext_1 (k := 108) rfl
theorem zr0_109 {S : Nat} : (zext h (zC1 h.2.1) S).1 (h.2.1 + 109) = (4, [.ref (h.2.1 + 110)]) := zext_1 (k := 109) rfl
theorem zr0_110 {S : Nat} : (zext h (zC1 h.2.1) S).1 (h.2.1 + 110) = (20, List.replicate 62 (.int 0)) := zext_1 (k := 110) rfl
theorem zr0_111 {S : Nat} : (zext h (zC1 h.2.1) S).1 (h.2.1 + 111) = (4, [.ref (h.2.1 + 112)]) := zext_1 (k := 111) rfl
theorem zr0_112 {S : Nat} : (zext h (zC1 h.2.1) S).1 (h.2.1 + 112) = (20, List.replicate 62 (.int 0)) := zext_1 (k := 112) rfl
theorem zr0_113 {S : Nat} : (zext h (zC1 h.2.1) S).1 (h.2.1 + 113) = (4, [.ref (h.2.1 + 114)]) := zext_1 (k := 113) rfl
theorem zr0_114 {S : Nat} : (zext h (zC1 h.2.1) S).1 (h.2.1 + 114) = (20, List.replicate 62 (.int 0)) := zext_1 (k := 114) rfl
theorem zr0_115 {S : Nat} : (zext h (zC1 h.2.1) S).1 (h.2.1 + 115) = (4, [.ref (h.2.1 + 116)]) := zext_1 (k := 115) rfl
theorem zr0_116 {S : Nat} : (zext h (zC1 h.2.1) S).1 (h.2.1 + 116) = (20, List.replicate 7 (.int 0)) := zext_1 (k := 116) rfl
theorem zr0_117 {S : Nat} : (zext h (zC1 h.2.1) S).1 (h.2.1 + 117) = (4, [.ref (h.2.1 + 118)]) := zext_1 (k := 117) rfl
theorem zr0_118 {S : Nat} : (zext h (zC1 h.2.1) S).1 (h.2.1 + 118) = (20, List.replicate 11 (.int 0)) := zext_1 (k := 118) rfl
theorem zr0_sz {S : Nat} : (zext h (zC1 h.2.1) S).2.1 = h.2.1 + 119 := rfl
theorem zr0_sl {S : Nat} : (zext h (zC1 h.2.1) S).2.2 = h.2.2 + S := rfl
end ZCV
