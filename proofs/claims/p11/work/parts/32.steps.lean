/-! Steps, one an instruction. Printed by wip/gen/steps.py. -/
section ZSTEPS
variable {sv : Nat → Value} {C : zCall} {h : zH} {st : List Value} {x y z : Int32} {xl yl : Int64} {xf xg : UInt32} {xd xe : UInt64} {a b c : Nat} {w0 w1 w2 w3 w4 w5 w6 w7 w8 : Int32} {q0 q1 q2 q3 q4 q5 q6 q7 q8 : Nat} {v0 v1 v2 v3 v4 v5 v6 r0 r1 r2 r3 r4 r5 : Value} {l0 l1 l2 l3 l4 l5 l6 l7 l8 l9 l10 l11 : Slot}
theorem zs_196_0 : zrun zP sv C 196 0 [.val (.ref a)] st h = zrun zP sv C 196 1 [.val (.ref a)] (.ref a :: st) h := zx_go rfl rfl
theorem zs_196_1 : zrun zP sv C 196 1 [l0] [.ref a] h = zrun zP sv C 196 4 [l0] [] h := zx_go rfl rfl
theorem zs_196_4 : zrun zP sv C 196 4 [.val (.ref a)] st h = zrun zP sv C 196 5 [.val (.ref a)] (.ref a :: st) h := zx_go rfl rfl
theorem zs_196_5 : zrun zP sv C 196 5 [l0] st h = zrun zP sv C 196 8 [l0] (.int (nI 387) :: st) h := zx_go rfl rfl
theorem zs_196_8 : zrun zP sv C 196 8 [l0] (.int x :: st) h = znwa x (fun q => zrun zP sv C 196 10 [l0] (.ref h.2.1 :: st) (znew h (20, List.replicate q (.int 0)) q)) := zx_nwa rfl rfl
theorem zs_196_10 : zrun zP sv C 196 10 [l0] (.ref b :: .ref a :: st) h = zpfd (h.1 a) 13 0 4 (.ref b) (fun c => zrun zP sv C 196 13 [l0] st (zup h a c)) := zx_putf (x0 := 4) rfl rfl
theorem zs_196_13 : zrun zP sv C 196 13 [.val (.ref a)] st h = zrun zP sv C 196 14 [.val (.ref a)] (.ref a :: st) h := zx_go rfl rfl
theorem zs_196_14 : zrun zP sv C 196 14 [l0] st h = zrun zP sv C 196 17 [l0] (.int (nI 387) :: st) h := zx_go rfl rfl
theorem zs_196_17 : zrun zP sv C 196 17 [l0] (.int x :: st) h = znwa x (fun q => zrun zP sv C 196 19 [l0] (.ref h.2.1 :: st) (znew h (20, List.replicate q (.int 0)) q)) := zx_nwa rfl rfl
theorem zs_196_19 : zrun zP sv C 196 19 [l0] (.ref b :: .ref a :: st) h = zpfd (h.1 a) 13 1 4 (.ref b) (fun c => zrun zP sv C 196 22 [l0] st (zup h a c)) := zx_putf (x0 := 4) rfl rfl
theorem zs_196_22 : zrun zP sv C 196 22 [.val (.ref a)] st h = zrun zP sv C 196 23 [.val (.ref a)] (.ref a :: st) h := zx_go rfl rfl
theorem zs_196_23 : zrun zP sv C 196 23 [l0] st h = zrun zP sv C 196 26 [l0] (.int (nI 3096) :: st) h := zx_go rfl rfl
theorem zs_196_26 : zrun zP sv C 196 26 [l0] (.int x :: st) h = znwa x (fun q => zrun zP sv C 196 28 [l0] (.ref h.2.1 :: st) (znew h (20, List.replicate q (.int 0)) q)) := zx_nwa rfl rfl
theorem zs_196_28 : zrun zP sv C 196 28 [l0] (.ref b :: .ref a :: st) h = zpfd (h.1 a) 13 2 4 (.ref b) (fun c => zrun zP sv C 196 31 [l0] st (zup h a c)) := zx_putf (x0 := 4) rfl rfl
theorem zs_196_31 : zrun zP sv C 196 31 [.val (.ref a)] st h = zrun zP sv C 196 32 [.val (.ref a)] (.ref a :: st) h := zx_go rfl rfl
theorem zs_196_32 : zrun zP sv C 196 32 [l0] st h = zrun zP sv C 196 35 [l0] (.int (nI 387) :: st) h := zx_go rfl rfl
theorem zs_196_35 : zrun zP sv C 196 35 [l0] (.int x :: st) h = znwa x (fun q => zrun zP sv C 196 37 [l0] (.ref h.2.1 :: st) (znew h (20, List.replicate q (.int 0)) q)) := zx_nwa rfl rfl
theorem zs_196_37 : zrun zP sv C 196 37 [l0] (.ref b :: .ref a :: st) h = zpfd (h.1 a) 13 4 4 (.ref b) (fun c => zrun zP sv C 196 40 [l0] st (zup h a c)) := zx_putf (x0 := 4) rfl rfl
theorem zs_196_40 : zrun zP sv C 196 40 [.val (.ref a)] st h = zrun zP sv C 196 41 [.val (.ref a)] (.ref a :: st) h := zx_go rfl rfl
theorem zs_196_41 : zrun zP sv C 196 41 [l0] st h = zrun zP sv C 196 44 [l0] (.int (nI 700) :: st) h := zx_go rfl rfl
theorem zs_196_44 : zrun zP sv C 196 44 [l0] (.int x :: st) h = znwa x (fun q => zrun zP sv C 196 46 [l0] (.ref h.2.1 :: st) (znew h (21, List.replicate q (.int 0)) q)) := zx_nwa rfl rfl
theorem zs_196_46 : zrun zP sv C 196 46 [l0] (.ref b :: .ref a :: st) h = zpfd (h.1 a) 13 6 4 (.ref b) (fun c => zrun zP sv C 196 49 [l0] st (zup h a c)) := zx_putf (x0 := 4) rfl rfl
theorem zs_196_49 : zrun zP sv C 196 49 [.val (.ref a)] st h = zrun zP sv C 196 50 [.val (.ref a)] (.ref a :: st) h := zx_go rfl rfl
theorem zs_196_50 : zrun zP sv C 196 50 [l0] st h = zrun zP sv C 196 53 [l0] (.int (nI 700) :: st) h := zx_go rfl rfl
theorem zs_196_53 : zrun zP sv C 196 53 [l0] (.int x :: st) h = znwa x (fun q => zrun zP sv C 196 55 [l0] (.ref h.2.1 :: st) (znew h (20, List.replicate q (.int 0)) q)) := zx_nwa rfl rfl
theorem zs_196_55 : zrun zP sv C 196 55 [l0] (.ref b :: .ref a :: st) h = zpfd (h.1 a) 13 7 4 (.ref b) (fun c => zrun zP sv C 196 58 [l0] st (zup h a c)) := zx_putf (x0 := 4) rfl rfl
theorem zs_196_58 : zrun zP sv C 196 58 [.val (.ref a)] st h = zrun zP sv C 196 59 [.val (.ref a)] (.ref a :: st) h := zx_go rfl rfl
theorem zs_196_59 : zrun zP sv C 196 59 [l0] st h = zrun zP sv C 196 62 [l0] (.int (nI 700) :: st) h := zx_go rfl rfl
theorem zs_196_62 : zrun zP sv C 196 62 [l0] (.int x :: st) h = znwa x (fun q => zrun zP sv C 196 64 [l0] (.ref h.2.1 :: st) (znew h (21, List.replicate q (.int 0)) q)) := zx_nwa rfl rfl
theorem zs_196_64 : zrun zP sv C 196 64 [l0] (.ref b :: .ref a :: st) h = zpfd (h.1 a) 13 9 4 (.ref b) (fun c => zrun zP sv C 196 67 [l0] st (zup h a c)) := zx_putf (x0 := 4) rfl rfl
theorem zs_196_67 : zrun zP sv C 196 67 [.val (.ref a)] st h = zrun zP sv C 196 68 [.val (.ref a)] (.ref a :: st) h := zx_go rfl rfl
theorem zs_196_68 : zrun zP sv C 196 68 [l0] st h = zrun zP sv C 196 71 [l0] (.int (nI 700) :: st) h := zx_go rfl rfl
theorem zs_196_71 : zrun zP sv C 196 71 [l0] (.int x :: st) h = znwa x (fun q => zrun zP sv C 196 73 [l0] (.ref h.2.1 :: st) (znew h (20, List.replicate q (.int 0)) q)) := zx_nwa rfl rfl
theorem zs_196_73 : zrun zP sv C 196 73 [l0] (.ref b :: .ref a :: st) h = zpfd (h.1 a) 13 10 4 (.ref b) (fun c => zrun zP sv C 196 76 [l0] st (zup h a c)) := zx_putf (x0 := 4) rfl rfl
theorem zs_196_76 : zrun zP sv C 196 76 [.val (.ref a)] st h = zrun zP sv C 196 77 [.val (.ref a)] (.ref a :: st) h := zx_go rfl rfl
theorem zs_196_77 : zrun zP sv C 196 77 [l0] st h = zrun zP sv C 196 80 [l0] (.int (nI 700) :: st) h := zx_go rfl rfl
theorem zs_196_80 : zrun zP sv C 196 80 [l0] (.int x :: st) h = znwa x (fun q => zrun zP sv C 196 82 [l0] (.ref h.2.1 :: st) (znew h (20, List.replicate q (.int 0)) q)) := zx_nwa rfl rfl
theorem zs_196_82 : zrun zP sv C 196 82 [l0] (.ref b :: .ref a :: st) h = zpfd (h.1 a) 13 12 4 (.ref b) (fun c => zrun zP sv C 196 85 [l0] st (zup h a c)) := zx_putf (x0 := 4) rfl rfl
theorem zs_196_85 : zrun zP sv C 196 85 [.val (.ref a)] st h = zrun zP sv C 196 86 [.val (.ref a)] (.ref a :: st) h := zx_go rfl rfl
theorem zs_196_86 : zrun zP sv C 196 86 [l0] st h = zrun zP sv C 196 89 [l0] (.int (nI 700) :: st) h := zx_go rfl rfl
theorem zs_196_89 : zrun zP sv C 196 89 [l0] (.int x :: st) h = znwa x (fun q => zrun zP sv C 196 91 [l0] (.ref h.2.1 :: st) (znew h (20, List.replicate q (.int 0)) q)) := zx_nwa rfl rfl
theorem zs_196_91 : zrun zP sv C 196 91 [l0] (.ref b :: .ref a :: st) h = zpfd (h.1 a) 13 13 4 (.ref b) (fun c => zrun zP sv C 196 94 [l0] st (zup h a c)) := zx_putf (x0 := 4) rfl rfl
theorem zs_196_94 : zrun zP sv C 196 94 [.val (.ref a)] st h = zrun zP sv C 196 95 [.val (.ref a)] (.ref a :: st) h := zx_go rfl rfl
theorem zs_196_95 : zrun zP sv C 196 95 [l0] st h = zrun zP sv C 196 98 [l0] (.int (nI 700) :: st) h := zx_go rfl rfl
theorem zs_196_98 : zrun zP sv C 196 98 [l0] (.int x :: st) h = znwa x (fun q => zrun zP sv C 196 100 [l0] (.ref h.2.1 :: st) (znew h (20, List.replicate q (.int 0)) q)) := zx_nwa rfl rfl
theorem zs_196_100 : zrun zP sv C 196 100 [l0] (.ref b :: .ref a :: st) h = zpfd (h.1 a) 13 14 4 (.ref b) (fun c => zrun zP sv C 196 103 [l0] st (zup h a c)) := zx_putf (x0 := 4) rfl rfl
theorem zs_196_103 : zrun zP sv C 196 103 [.val (.ref a)] st h = zrun zP sv C 196 104 [.val (.ref a)] (.ref a :: st) h := zx_go rfl rfl
theorem zs_196_104 : zrun zP sv C 196 104 [l0] st h = zrun zP sv C 196 107 [l0] (.int (nI 700) :: st) h := zx_go rfl rfl
theorem zs_196_107 : zrun zP sv C 196 107 [l0] (.int x :: st) h = znwa x (fun q => zrun zP sv C 196 109 [l0] (.ref h.2.1 :: st) (znew h (21, List.replicate q (.int 0)) q)) := zx_nwa rfl rfl
theorem zs_196_109 : zrun zP sv C 196 109 [l0] (.ref b :: .ref a :: st) h = zpfd (h.1 a) 13 15 4 (.ref b) (fun c => zrun zP sv C 196 112 [l0] st (zup h a c)) := zx_putf (x0 := 4) rfl rfl
theorem zs_196_112 : zrun zP sv C 196 112 [.val (.ref a)] st h = zrun zP sv C 196 113 [.val (.ref a)] (.ref a :: st) h := zx_go rfl rfl
theorem zs_196_113 : zrun zP sv C 196 113 [l0] st h = zrun zP sv C 196 116 [l0] (.int (nI 700) :: st) h := zx_go rfl rfl
theorem zs_196_116 : zrun zP sv C 196 116 [l0] (.int x :: st) h = znwa x (fun q => zrun zP sv C 196 118 [l0] (.ref h.2.1 :: st) (znew h (20, List.replicate q (.int 0)) q)) := zx_nwa rfl rfl
theorem zs_196_118 : zrun zP sv C 196 118 [l0] (.ref b :: .ref a :: st) h = zpfd (h.1 a) 13 16 4 (.ref b) (fun c => zrun zP sv C 196 121 [l0] st (zup h a c)) := zx_putf (x0 := 4) rfl rfl
theorem zs_196_121 : zrun zP sv C 196 121 [.val (.ref a)] st h = zrun zP sv C 196 122 [.val (.ref a)] (.ref a :: st) h := zx_go rfl rfl
theorem zs_196_122 : zrun zP sv C 196 122 [l0] st h = zrun zP sv C 196 125 [l0] (.int (nI 700) :: st) h := zx_go rfl rfl
theorem zs_196_125 : zrun zP sv C 196 125 [l0] (.int x :: st) h = znwa x (fun q => zrun zP sv C 196 127 [l0] (.ref h.2.1 :: st) (znew h (20, List.replicate q (.int 0)) q)) := zx_nwa rfl rfl
theorem zs_196_127 : zrun zP sv C 196 127 [l0] (.ref b :: .ref a :: st) h = zpfd (h.1 a) 13 17 4 (.ref b) (fun c => zrun zP sv C 196 130 [l0] st (zup h a c)) := zx_putf (x0 := 4) rfl rfl
theorem zs_196_130 : zrun zP sv C 196 130 [.val (.ref a)] st h = zrun zP sv C 196 131 [.val (.ref a)] (.ref a :: st) h := zx_go rfl rfl
theorem zs_196_131 : zrun zP sv C 196 131 [l0] st h = zrun zP sv C 196 134 [l0] (.int (nI 700) :: st) h := zx_go rfl rfl
theorem zs_196_134 : zrun zP sv C 196 134 [l0] (.int x :: st) h = znwa x (fun q => zrun zP sv C 196 136 [l0] (.ref h.2.1 :: st) (znew h (20, List.replicate q (.int 0)) q)) := zx_nwa rfl rfl
theorem zs_196_136 : zrun zP sv C 196 136 [l0] (.ref b :: .ref a :: st) h = zpfd (h.1 a) 13 18 4 (.ref b) (fun c => zrun zP sv C 196 139 [l0] st (zup h a c)) := zx_putf (x0 := 4) rfl rfl
theorem zs_196_139 : zrun zP sv C 196 139 [.val (.ref a)] st h = zrun zP sv C 196 140 [.val (.ref a)] (.ref a :: st) h := zx_go rfl rfl
theorem zs_196_140 : zrun zP sv C 196 140 [l0] st h = zrun zP sv C 196 143 [l0] (.int (nI 700) :: st) h := zx_go rfl rfl
theorem zs_196_143 : zrun zP sv C 196 143 [l0] (.int x :: st) h = znwa x (fun q => zrun zP sv C 196 145 [l0] (.ref h.2.1 :: st) (znew h (21, List.replicate q (.int 0)) q)) := zx_nwa rfl rfl
theorem zs_196_145 : zrun zP sv C 196 145 [l0] (.ref b :: .ref a :: st) h = zpfd (h.1 a) 13 23 4 (.ref b) (fun c => zrun zP sv C 196 148 [l0] st (zup h a c)) := zx_putf (x0 := 4) rfl rfl
theorem zs_196_148 : zrun zP sv C 196 148 [.val (.ref a)] st h = zrun zP sv C 196 149 [.val (.ref a)] (.ref a :: st) h := zx_go rfl rfl
theorem zs_196_149 : zrun zP sv C 196 149 [l0] st h = zrun zP sv C 196 151 [l0] (.int (nI 60) :: st) h := zx_go rfl rfl
theorem zs_196_151 : zrun zP sv C 196 151 [l0] (.int x :: st) h = znwa x (fun q => zrun zP sv C 196 153 [l0] (.ref h.2.1 :: st) (znew h (21, List.replicate q (.int 0)) q)) := zx_nwa rfl rfl
theorem zs_196_153 : zrun zP sv C 196 153 [l0] (.ref b :: .ref a :: st) h = zpfd (h.1 a) 13 25 4 (.ref b) (fun c => zrun zP sv C 196 156 [l0] st (zup h a c)) := zx_putf (x0 := 4) rfl rfl
theorem zs_196_156 : zrun zP sv C 196 156 [.val (.ref a)] st h = zrun zP sv C 196 157 [.val (.ref a)] (.ref a :: st) h := zx_go rfl rfl
theorem zs_196_157 : zrun zP sv C 196 157 [l0] st h = zrun zP sv C 196 158 [l0] (.int (-1) :: st) h := zx_go rfl rfl
theorem zs_196_158 : zrun zP sv C 196 158 [l0] (.int x :: .ref a :: st) h = zpfd (h.1 a) 13 29 0 (.int x) (fun c => zrun zP sv C 196 161 [l0] st (zup h a c)) := zx_putf (x0 := 0) rfl rfl
theorem zs_196_161 : zrun zP sv C 196 161 [.val (.ref a)] st h = zrun zP sv C 196 162 [.val (.ref a)] (.ref a :: st) h := zx_go rfl rfl
theorem zs_196_162 : zrun zP sv C 196 162 [l0] (.ref a :: st) h = zfld (h.1 a) 13 0 (fun v => zrun zP sv C 196 165 [l0] (v :: st) h) := zx_getf rfl rfl
theorem zs_196_165 : zrun zP sv C 196 165 [l0] st h = zrun zP sv C 196 166 [l0] (.int (nI 1) :: st) h := zx_go rfl rfl
theorem zs_196_166 : zrun zP sv C 196 166 [l0] st h = zrun zP sv C 196 167 [l0] (.int (nI 2) :: st) h := zx_go rfl rfl
theorem zs_196_167 : zrun zP sv C 196 167 [l0] (.int y :: .int x :: .ref a :: st) h = zaset (h.1 a) 20 x (.int y) (fun c => zrun zP sv C 196 168 [l0] st (zup h a c)) := zx_ast rfl rfl
theorem zs_196_168 : zrun zP sv C 196 168 [l0] [] h = some (.inl none, h) := zx_end rfl rfl
theorem zs_198_0 : zrun zP sv C 198 0 [.val (.ref a), l1] st h = zrun zP sv C 198 1 [.val (.ref a), l1] (.ref a :: st) h := zx_go rfl rfl
theorem zs_198_1 : zrun zP sv C 198 1 [l0, .val (.int x)] st h = zrun zP sv C 198 2 [l0, .val (.int x)] (.int x :: st) h := zx_go rfl rfl
theorem zs_198_2 : zrun zP sv C 198 2 [l0, l1] (.int x :: .ref a :: st) h = zpfd (h.1 a) 13 31 0 (.int x) (fun c => zrun zP sv C 198 5 [l0, l1] st (zup h a c)) := zx_putf (x0 := 0) rfl rfl
theorem zs_198_5 : zrun zP sv C 198 5 [l0, l1] st h = zrun zP sv C 198 6 [l0, l1] (.int 0 :: st) h := zx_go rfl rfl
theorem zs_198_6 : zrun zP sv C 198 6 [l0, l1] [.int x] h = some (.inl (some (.int x)), h) := zx_end rfl rfl
theorem zs_199_0 : zrun zP sv C 199 0 [.val (.int x), l1, l2] st h = zrun zP sv C 199 1 [.val (.int x), l1, l2] (.int x :: st) h := zx_go rfl rfl
theorem zs_199_1 : zrun zP sv C 199 1 [l0, .val (.int x), l2] st h = zrun zP sv C 199 2 [l0, .val (.int x), l2] (.int x :: st) h := zx_go rfl rfl
theorem zs_199_2 : zrun zP sv C 199 2 [l0, l1, l2] (.int y :: .int x :: st) h = if x < y then zrun zP sv C 199 14 [l0, l1, l2] st h else zrun zP sv C 199 5 [l0, l1, l2] st h := (zx_ic rfl rfl).trans zc2_if
theorem zs_199_5 : zrun zP sv C 199 5 [.val (.int x), l1, l2] st h = zrun zP sv C 199 6 [.val (.int x), l1, l2] (.int x :: st) h := zx_go rfl rfl
theorem zs_199_6 : zrun zP sv C 199 6 [l0, l1, .val (.int x)] st h = zrun zP sv C 199 7 [l0, l1, .val (.int x)] (.int x :: st) h := zx_go rfl rfl
theorem zs_199_7 : zrun zP sv C 199 7 [l0, l1, l2] (.int y :: .int x :: st) h = if y < x then zrun zP sv C 199 14 [l0, l1, l2] st h else zrun zP sv C 199 10 [l0, l1, l2] st h := (zx_ic rfl rfl).trans zc4_if
theorem zs_199_10 : zrun zP sv C 199 10 [l0, l1, l2] st h = zrun zP sv C 199 11 [l0, l1, l2] (.int (nI 1) :: st) h := zx_go rfl rfl
theorem zs_199_11 : zrun zP sv C 199 11 [l0, l1, l2] st h = zrun zP sv C 199 15 [l0, l1, l2] st h := zx_go rfl rfl
theorem zs_199_14 : zrun zP sv C 199 14 [l0, l1, l2] st h = zrun zP sv C 199 15 [l0, l1, l2] (.int 0 :: st) h := zx_go rfl rfl
theorem zs_199_15 : zrun zP sv C 199 15 [l0, l1, l2] [.int x] h = zgd (zty 5 (.int x)) (some (.inl (some (.int x)), h)) := zx_rt rfl
theorem zs_200_0 : zrun zP sv C 200 0 [.val (.ref a), l1] st h = zrun zP sv C 200 1 [.val (.ref a), l1] (.ref a :: st) h := zx_go rfl rfl
theorem zs_200_1 : zrun zP sv C 200 1 [l0, l1] st h = zrun zP sv C 200 2 [l0, l1] (.int 0 :: st) h := zx_go rfl rfl
theorem zs_200_2 : zrun zP sv C 200 2 [l0, l1] (.int x :: .ref a :: st) h = zpfd (h.1 a) 13 31 0 (.int x) (fun c => zrun zP sv C 200 5 [l0, l1] st (zup h a c)) := zx_putf (x0 := 0) rfl rfl
theorem zs_200_5 : zrun zP sv C 200 5 [l0, l1] st h = zrun zP sv C 200 6 [l0, l1] (.int 0 :: st) h := zx_go rfl rfl
theorem zs_200_6 (hs : znw l1 = true) : zrun zP sv C 200 6 [l0, l1] (.int x :: st) h = zrun zP sv C 200 7 [l0, .val (.int x)] st h := zx_st hs rfl rfl rfl rfl rfl rfl
theorem zs_200_7 : zrun zP sv C 200 7 [l0, .val (.int x)] st h = zrun zP sv C 200 8 [l0, .val (.int x)] (.int x :: st) h := zx_go rfl rfl
theorem zs_200_8 : zrun zP sv C 200 8 [l0, l1] st h = zrun zP sv C 200 11 [l0, l1] (.int (nI 387) :: st) h := zx_go rfl rfl
theorem zs_200_11 : zrun zP sv C 200 11 [l0, l1] (.int y :: .int x :: st) h = if x < y then zrun zP sv C 200 14 [l0, l1] st h else zrun zP sv C 200 32 [l0, l1] st h := (zx_ic rfl rfl).trans zc3_if
theorem zs_200_14 : zrun zP sv C 200 14 [.val (.ref a), l1] st h = zrun zP sv C 200 15 [.val (.ref a), l1] (.ref a :: st) h := zx_go rfl rfl
theorem zs_200_15 : zrun zP sv C 200 15 [l0, l1] (.ref a :: st) h = zfld (h.1 a) 13 1 (fun v => zrun zP sv C 200 18 [l0, l1] (v :: st) h) := zx_getf rfl rfl
theorem zs_200_18 : zrun zP sv C 200 18 [l0, .val (.int x)] st h = zrun zP sv C 200 19 [l0, .val (.int x)] (.int x :: st) h := zx_go rfl rfl
theorem zs_200_19 : zrun zP sv C 200 19 [.val (.ref a), l1] st h = zrun zP sv C 200 20 [.val (.ref a), l1] (.ref a :: st) h := zx_go rfl rfl
theorem zs_200_20 : zrun zP sv C 200 20 [l0, l1] (.ref a :: st) h = zfld (h.1 a) 13 0 (fun v => zrun zP sv C 200 23 [l0, l1] (v :: st) h) := zx_getf rfl rfl
theorem zs_200_23 : zrun zP sv C 200 23 [l0, .val (.int x)] st h = zrun zP sv C 200 24 [l0, .val (.int x)] (.int x :: st) h := zx_go rfl rfl
theorem zs_200_24 : zrun zP sv C 200 24 [l0, l1] (.int x :: .ref a :: st) h = zael (h.1 a) 20 x (fun v => zrun zP sv C 200 25 [l0, l1] (v :: st) h) := zx_ald rfl rfl
theorem zs_200_25 : zrun zP sv C 200 25 [l0, l1] (.int y :: .int x :: .ref a :: st) h = zaset (h.1 a) 20 x (.int y) (fun c => zrun zP sv C 200 26 [l0, l1] st (zup h a c)) := zx_ast rfl rfl
theorem zs_200_26 : zrun zP sv C 200 26 [l0, .val (.int x)] st h = zrun zP sv C 200 29 [l0, .val (.int (x + (nI 1)))] st h := zx_ii rfl rfl rfl rfl rfl
theorem zs_200_29 : zrun zP sv C 200 29 [l0, l1] st h = zrun zP sv C 200 7 [l0, l1] st h := zx_go rfl rfl
theorem zs_200_32 : zrun zP sv C 200 32 [l0, l1] [] h = some (.inl none, h) := zx_end rfl rfl
theorem zs_201_0 : zrun zP sv C 201 0 [.val (.ref a), l1] st h = zrun zP sv C 201 1 [.val (.ref a), l1] (.ref a :: st) h := zx_go rfl rfl
theorem zs_201_1 : zrun zP sv C 201 1 [l0, .val (.int x)] st h = zrun zP sv C 201 2 [l0, .val (.int x)] (.int x :: st) h := zx_go rfl rfl
theorem zs_201_2 : zrun zP sv C 201 2 [l0, l1] (.int x :: .ref a :: st) h = zpfd (h.1 a) 13 30 0 (.int x) (fun c => zrun zP sv C 201 5 [l0, l1] st (zup h a c)) := zx_putf (x0 := 0) rfl rfl
theorem zs_201_5 : zrun zP sv C 201 5 [l0, l1] st h = zrun zP sv C 201 6 [l0, l1] (.int 0 :: st) h := zx_go rfl rfl
theorem zs_201_6 : zrun zP sv C 201 6 [l0, l1] [.int x] h = some (.inl (some (.int x)), h) := zx_end rfl rfl
theorem zs_202_0 : zrun zP sv C 202 0 [l0, .val (.int x), l2] st h = zrun zP sv C 202 1 [l0, .val (.int x), l2] (.int x :: st) h := zx_go rfl rfl
theorem zs_202_1 : zrun zP sv C 202 1 [l0, l1, l2] (.int x :: st) h = if 0 < x then zrun zP sv C 202 4 [l0, l1, l2] st h else zrun zP sv C 202 10 [l0, l1, l2] st h := (zx_if rfl rfl).trans zc5_if
theorem zs_202_4 : zrun zP sv C 202 4 [.val (.ref a), l1, l2] st h = zrun zP sv C 202 5 [.val (.ref a), l1, l2] (.ref a :: st) h := zx_go rfl rfl
theorem zs_202_5 : zrun zP sv C 202 5 [l0, .val (.int x), l2] st h = zrun zP sv C 202 6 [l0, .val (.int x), l2] (.int x :: st) h := zx_go rfl rfl
theorem zs_202_6 : zrun zP sv C 202 6 [l0, l1, l2] [v1, .ref b] h = zrc (h.1 b) 13 (zbk (C 198 [.ref b, v1] h) (fun v h' => zrun zP sv C 202 9 [l0, l1, l2] (v.toList ++ []) h') (fun E h' => some (.inr E, h'))) := zx_cv (x0 := 13) rfl rfl rfl rfl rfl ⟨Nat.le_of_ble_eq_true rfl, rfl⟩ (fun _ _ => rfl)
theorem zs_202_9 : zrun zP sv C 202 9 [l0, l1, l2] [.int x] h = some (.inl (some (.int x)), h) := zx_end rfl rfl
theorem zs_202_10 : zrun zP sv C 202 10 [.val (.ref a), l1, l2] st h = zrun zP sv C 202 11 [.val (.ref a), l1, l2] (.ref a :: st) h := zx_go rfl rfl
theorem zs_202_11 : zrun zP sv C 202 11 [l0, l1, l2] (.ref a :: st) h = zfld (h.1 a) 13 3 (fun v => zrun zP sv C 202 14 [l0, l1, l2] (v :: st) h) := zx_getf rfl rfl
theorem zs_202_14 : zrun zP sv C 202 14 [l0, l1, l2] st h = zrun zP sv C 202 16 [l0, l1, l2] (.int (nI 8) :: st) h := zx_go rfl rfl
theorem zs_202_16 : zrun zP sv C 202 16 [l0, l1, l2] (.int y :: .int x :: st) h = if x = y then zrun zP sv C 202 19 [l0, l1, l2] st h else zrun zP sv C 202 60 [l0, l1, l2] st h := (zx_ic rfl rfl).trans zc1_if
theorem zs_202_19 : zrun zP sv C 202 19 [l0, l1, l2] st h = zrun zP sv C 202 20 [l0, l1, l2] (.int 0 :: st) h := zx_go rfl rfl
theorem zs_202_20 (hs : znw l2 = true) : zrun zP sv C 202 20 [l0, l1, l2] (.int x :: st) h = zrun zP sv C 202 21 [l0, l1, .val (.int x)] st h := zx_st hs rfl rfl rfl rfl rfl rfl
theorem zs_202_21 : zrun zP sv C 202 21 [l0, l1, .val (.int x)] st h = zrun zP sv C 202 22 [l0, l1, .val (.int x)] (.int x :: st) h := zx_go rfl rfl
theorem zs_202_22 : zrun zP sv C 202 22 [l0, l1, l2] st h = zrun zP sv C 202 25 [l0, l1, l2] (.int (nI 2709) :: st) h := zx_go rfl rfl
theorem zs_202_25 : zrun zP sv C 202 25 [l0, l1, l2] (.int y :: .int x :: st) h = if x < y then zrun zP sv C 202 28 [l0, l1, l2] st h else zrun zP sv C 202 50 [l0, l1, l2] st h := (zx_ic rfl rfl).trans zc3_if
theorem zs_202_28 : zrun zP sv C 202 28 [.val (.ref a), l1, l2] st h = zrun zP sv C 202 29 [.val (.ref a), l1, l2] (.ref a :: st) h := zx_go rfl rfl
theorem zs_202_29 : zrun zP sv C 202 29 [l0, l1, l2] (.ref a :: st) h = zfld (h.1 a) 13 2 (fun v => zrun zP sv C 202 32 [l0, l1, l2] (v :: st) h) := zx_getf rfl rfl
theorem zs_202_32 : zrun zP sv C 202 32 [l0, l1, .val (.int x)] st h = zrun zP sv C 202 33 [l0, l1, .val (.int x)] (.int x :: st) h := zx_go rfl rfl
theorem zs_202_33 : zrun zP sv C 202 33 [.val (.ref a), l1, l2] st h = zrun zP sv C 202 34 [.val (.ref a), l1, l2] (.ref a :: st) h := zx_go rfl rfl
theorem zs_202_34 : zrun zP sv C 202 34 [l0, l1, l2] (.ref a :: st) h = zfld (h.1 a) 13 2 (fun v => zrun zP sv C 202 37 [l0, l1, l2] (v :: st) h) := zx_getf rfl rfl
theorem zs_202_37 : zrun zP sv C 202 37 [l0, l1, l2] st h = zrun zP sv C 202 40 [l0, l1, l2] (.int (nI 387) :: st) h := zx_go rfl rfl
theorem zs_202_40 : zrun zP sv C 202 40 [l0, l1, .val (.int x)] st h = zrun zP sv C 202 41 [l0, l1, .val (.int x)] (.int x :: st) h := zx_go rfl rfl
theorem zs_202_41 : zrun zP sv C 202 41 [l0, l1, l2] (.int y :: .int x :: st) h = zrun zP sv C 202 42 [l0, l1, l2] (.int (x + y) :: st) h := zx_go rfl rfl
theorem zs_202_42 : zrun zP sv C 202 42 [l0, l1, l2] (.int x :: .ref a :: st) h = zael (h.1 a) 20 x (fun v => zrun zP sv C 202 43 [l0, l1, l2] (v :: st) h) := zx_ald rfl rfl
theorem zs_202_43 : zrun zP sv C 202 43 [l0, l1, l2] (.int y :: .int x :: .ref a :: st) h = zaset (h.1 a) 20 x (.int y) (fun c => zrun zP sv C 202 44 [l0, l1, l2] st (zup h a c)) := zx_ast rfl rfl
theorem zs_202_44 : zrun zP sv C 202 44 [l0, l1, .val (.int x)] st h = zrun zP sv C 202 47 [l0, l1, .val (.int (x + (nI 1)))] st h := zx_ii rfl rfl rfl rfl rfl
theorem zs_202_47 : zrun zP sv C 202 47 [l0, l1, l2] st h = zrun zP sv C 202 21 [l0, l1, l2] st h := zx_go rfl rfl
theorem zs_202_50 : zrun zP sv C 202 50 [.val (.ref a), l1, l2] st h = zrun zP sv C 202 51 [.val (.ref a), l1, l2] (.ref a :: st) h := zx_go rfl rfl
theorem zs_202_51 : zrun zP sv C 202 51 [l0, l1, l2] (.ref a :: st) h = zrun zP sv C 202 52 [l0, l1, l2] (.ref a :: .ref a :: st) h := zx_go rfl rfl
theorem zs_202_52 : zrun zP sv C 202 52 [l0, l1, l2] (.ref a :: st) h = zfld (h.1 a) 13 3 (fun v => zrun zP sv C 202 55 [l0, l1, l2] (v :: st) h) := zx_getf rfl rfl
theorem zs_202_55 : zrun zP sv C 202 55 [l0, l1, l2] st h = zrun zP sv C 202 56 [l0, l1, l2] (.int (nI 1) :: st) h := zx_go rfl rfl
theorem zs_202_56 : zrun zP sv C 202 56 [l0, l1, l2] (.int y :: .int x :: st) h = zrun zP sv C 202 57 [l0, l1, l2] (.int (x - y) :: st) h := zx_go rfl rfl
theorem zs_202_57 : zrun zP sv C 202 57 [l0, l1, l2] (.int x :: .ref a :: st) h = zpfd (h.1 a) 13 3 0 (.int x) (fun c => zrun zP sv C 202 60 [l0, l1, l2] st (zup h a c)) := zx_putf (x0 := 0) rfl rfl
theorem zs_202_60 : zrun zP sv C 202 60 [l0, l1, l2] st h = zrun zP sv C 202 61 [l0, l1, l2] (.int 0 :: st) h := zx_go rfl rfl
theorem zs_202_61 (hs : znw l2 = true) : zrun zP sv C 202 61 [l0, l1, l2] (.int x :: st) h = zrun zP sv C 202 62 [l0, l1, .val (.int x)] st h := zx_st hs rfl rfl rfl rfl rfl rfl
theorem zs_202_62 : zrun zP sv C 202 62 [l0, l1, .val (.int x)] st h = zrun zP sv C 202 63 [l0, l1, .val (.int x)] (.int x :: st) h := zx_go rfl rfl
theorem zs_202_63 : zrun zP sv C 202 63 [l0, l1, l2] st h = zrun zP sv C 202 66 [l0, l1, l2] (.int (nI 387) :: st) h := zx_go rfl rfl
theorem zs_202_66 : zrun zP sv C 202 66 [l0, l1, l2] (.int y :: .int x :: st) h = if x < y then zrun zP sv C 202 69 [l0, l1, l2] st h else zrun zP sv C 202 96 [l0, l1, l2] st h := (zx_ic rfl rfl).trans zc3_if
theorem zs_202_69 : zrun zP sv C 202 69 [.val (.ref a), l1, l2] st h = zrun zP sv C 202 70 [.val (.ref a), l1, l2] (.ref a :: st) h := zx_go rfl rfl
theorem zs_202_70 : zrun zP sv C 202 70 [l0, l1, l2] (.ref a :: st) h = zfld (h.1 a) 13 2 (fun v => zrun zP sv C 202 73 [l0, l1, l2] (v :: st) h) := zx_getf rfl rfl
theorem zs_202_73 : zrun zP sv C 202 73 [l0, l1, l2] st h = zrun zP sv C 202 76 [l0, l1, l2] (.int (nI 387) :: st) h := zx_go rfl rfl
theorem zs_202_76 : zrun zP sv C 202 76 [.val (.ref a), l1, l2] st h = zrun zP sv C 202 77 [.val (.ref a), l1, l2] (.ref a :: st) h := zx_go rfl rfl
theorem zs_202_77 : zrun zP sv C 202 77 [l0, l1, l2] (.ref a :: st) h = zfld (h.1 a) 13 3 (fun v => zrun zP sv C 202 80 [l0, l1, l2] (v :: st) h) := zx_getf rfl rfl
theorem zs_202_80 : zrun zP sv C 202 80 [l0, l1, l2] (.int y :: .int x :: st) h = zrun zP sv C 202 81 [l0, l1, l2] (.int (x * y) :: st) h := zx_go rfl rfl
theorem zs_202_81 : zrun zP sv C 202 81 [l0, l1, .val (.int x)] st h = zrun zP sv C 202 82 [l0, l1, .val (.int x)] (.int x :: st) h := zx_go rfl rfl
theorem zs_202_82 : zrun zP sv C 202 82 [l0, l1, l2] (.int y :: .int x :: st) h = zrun zP sv C 202 83 [l0, l1, l2] (.int (x + y) :: st) h := zx_go rfl rfl
theorem zs_202_83 : zrun zP sv C 202 83 [.val (.ref a), l1, l2] st h = zrun zP sv C 202 84 [.val (.ref a), l1, l2] (.ref a :: st) h := zx_go rfl rfl
theorem zs_202_84 : zrun zP sv C 202 84 [l0, l1, l2] (.ref a :: st) h = zfld (h.1 a) 13 1 (fun v => zrun zP sv C 202 87 [l0, l1, l2] (v :: st) h) := zx_getf rfl rfl
theorem zs_202_87 : zrun zP sv C 202 87 [l0, l1, .val (.int x)] st h = zrun zP sv C 202 88 [l0, l1, .val (.int x)] (.int x :: st) h := zx_go rfl rfl
theorem zs_202_88 : zrun zP sv C 202 88 [l0, l1, l2] (.int x :: .ref a :: st) h = zael (h.1 a) 20 x (fun v => zrun zP sv C 202 89 [l0, l1, l2] (v :: st) h) := zx_ald rfl rfl
theorem zs_202_89 : zrun zP sv C 202 89 [l0, l1, l2] (.int y :: .int x :: .ref a :: st) h = zaset (h.1 a) 20 x (.int y) (fun c => zrun zP sv C 202 90 [l0, l1, l2] st (zup h a c)) := zx_ast rfl rfl
theorem zs_202_90 : zrun zP sv C 202 90 [l0, l1, .val (.int x)] st h = zrun zP sv C 202 93 [l0, l1, .val (.int (x + (nI 1)))] st h := zx_ii rfl rfl rfl rfl rfl
theorem zs_202_93 : zrun zP sv C 202 93 [l0, l1, l2] st h = zrun zP sv C 202 62 [l0, l1, l2] st h := zx_go rfl rfl
theorem zs_202_96 : zrun zP sv C 202 96 [.val (.ref a), l1, l2] st h = zrun zP sv C 202 97 [.val (.ref a), l1, l2] (.ref a :: st) h := zx_go rfl rfl
theorem zs_202_97 : zrun zP sv C 202 97 [l0, l1, l2] (.ref a :: st) h = zrun zP sv C 202 98 [l0, l1, l2] (.ref a :: .ref a :: st) h := zx_go rfl rfl
theorem zs_202_98 : zrun zP sv C 202 98 [l0, l1, l2] (.ref a :: st) h = zfld (h.1 a) 13 3 (fun v => zrun zP sv C 202 101 [l0, l1, l2] (v :: st) h) := zx_getf rfl rfl
theorem zs_202_101 : zrun zP sv C 202 101 [l0, l1, l2] st h = zrun zP sv C 202 102 [l0, l1, l2] (.int (nI 1) :: st) h := zx_go rfl rfl
theorem zs_202_102 : zrun zP sv C 202 102 [l0, l1, l2] (.int y :: .int x :: st) h = zrun zP sv C 202 103 [l0, l1, l2] (.int (x + y) :: st) h := zx_go rfl rfl
theorem zs_202_103 : zrun zP sv C 202 103 [l0, l1, l2] (.int x :: .ref a :: st) h = zpfd (h.1 a) 13 3 0 (.int x) (fun c => zrun zP sv C 202 106 [l0, l1, l2] st (zup h a c)) := zx_putf (x0 := 0) rfl rfl
theorem zs_202_106 : zrun zP sv C 202 106 [.val (.ref a), l1, l2] st h = zrun zP sv C 202 107 [.val (.ref a), l1, l2] (.ref a :: st) h := zx_go rfl rfl
theorem zs_202_107 : zrun zP sv C 202 107 [l0, l1, l2] (.ref a :: st) h = zfld (h.1 a) 13 30 (fun v => zrun zP sv C 202 110 [l0, l1, l2] (v :: st) h) := zx_getf rfl rfl
theorem zs_202_110 : zrun zP sv C 202 110 [l0, l1, l2] [.int x] h = some (.inl (some (.int x)), h) := zx_end rfl rfl
theorem zs_203_0 : zrun zP sv C 203 0 [l0, .val (.int x)] st h = zrun zP sv C 203 1 [l0, .val (.int x)] (.int x :: st) h := zx_go rfl rfl
theorem zs_203_1 : zrun zP sv C 203 1 [l0, l1] st h = zrun zP sv C 203 2 [l0, l1] (.int 0 :: st) h := zx_go rfl rfl
theorem zs_203_2 : zrun zP sv C 203 2 [.val (.ref a), l1] st h = zrun zP sv C 203 3 [.val (.ref a), l1] (.ref a :: st) h := zx_go rfl rfl
theorem zs_203_3 : zrun zP sv C 203 3 [l0, l1] (.ref a :: st) h = zfld (h.1 a) 13 0 (fun v => zrun zP sv C 203 6 [l0, l1] (v :: st) h) := zx_getf rfl rfl
theorem zs_203_6 : zrun zP sv C 203 6 [l0, l1] st h = zrun zP sv C 203 7 [l0, l1] (.int 0 :: st) h := zx_go rfl rfl
theorem zs_203_7 : zrun zP sv C 203 7 [l0, l1] (.int x :: .ref a :: st) h = zael (h.1 a) 20 x (fun v => zrun zP sv C 203 8 [l0, l1] (v :: st) h) := zx_ald rfl rfl
theorem zs_203_8 : zrun zP sv C 203 8 [l0, l1] st h = zrun zP sv C 203 9 [l0, l1] (.int (nI 1) :: st) h := zx_go rfl rfl
theorem zs_203_9 : zrun zP sv C 203 9 [l0, l1] (.int y :: .int x :: st) h = zrun zP sv C 203 10 [l0, l1] (.int (x - y) :: st) h := zx_go rfl rfl
theorem zs_203_10 : zrun zP sv C 203 10 [l0, l1] [v2, v1, v0] h = zbk (C 199 [v0, v1, v2] h) (fun v h' => zrun zP sv C 203 13 [l0, l1] (v.toList ++ []) h') (fun E h' => some (.inr E, h')) := zx_cs rfl rfl rfl rfl ⟨Nat.le_of_ble_eq_true rfl, rfl⟩ (fun _ _ => rfl)
theorem zs_203_13 : zrun zP sv C 203 13 [l0, l1] [.int x] h = zgd (zty 5 (.int x)) (some (.inl (some (.int x)), h)) := zx_rt rfl
theorem zs_204_0 : zrun zP sv C 204 0 [.val (.int x)] st h = zrun zP sv C 204 1 [.val (.int x)] (.int x :: st) h := zx_go rfl rfl
theorem zs_204_1 : zrun zP sv C 204 1 [l0] st h = zrun zP sv C 204 3 [l0] (.int (nI 97) :: st) h := zx_go rfl rfl
theorem zs_204_3 : zrun zP sv C 204 3 [l0] st h = zrun zP sv C 204 5 [l0] (.int (nI 102) :: st) h := zx_go rfl rfl
theorem zs_204_5 : zrun zP sv C 204 5 [l0] [v2, v1, v0] h = zbk (C 199 [v0, v1, v2] h) (fun v h' => zrun zP sv C 204 8 [l0] (v.toList ++ []) h') (fun E h' => some (.inr E, h')) := zx_cs rfl rfl rfl rfl ⟨Nat.le_of_ble_eq_true rfl, rfl⟩ (fun _ _ => rfl)
theorem zs_204_8 : zrun zP sv C 204 8 [l0] [.int x] h = zgd (zty 5 (.int x)) (some (.inl (some (.int x)), h)) := zx_rt rfl
theorem zs_205_0 : zrun zP sv C 205 0 [.val (.int x)] st h = zrun zP sv C 205 1 [.val (.int x)] (.int x :: st) h := zx_go rfl rfl
theorem zs_205_1 : zrun zP sv C 205 1 [l0] st h = zrun zP sv C 205 3 [l0] (.int (nI 99) :: st) h := zx_go rfl rfl
theorem zs_205_3 : zrun zP sv C 205 3 [l0] (.int y :: .int x :: st) h = if x = y then zrun zP sv C 205 12 [l0] st h else zrun zP sv C 205 6 [l0] st h := (zx_ic rfl rfl).trans zc0_if
theorem zs_205_6 : zrun zP sv C 205 6 [.val (.int x)] st h = zrun zP sv C 205 7 [.val (.int x)] (.int x :: st) h := zx_go rfl rfl
theorem zs_205_7 : zrun zP sv C 205 7 [l0] st h = zrun zP sv C 205 9 [l0] (.int (nI 118) :: st) h := zx_go rfl rfl
theorem zs_205_9 : zrun zP sv C 205 9 [l0] (.int y :: .int x :: st) h = if x = y then zrun zP sv C 205 12 [l0] st h else zrun zP sv C 205 16 [l0] st h := (zx_ic rfl rfl).trans zc1_if
theorem zs_205_12 : zrun zP sv C 205 12 [l0] st h = zrun zP sv C 205 13 [l0] (.int 0 :: st) h := zx_go rfl rfl
theorem zs_205_13 : zrun zP sv C 205 13 [l0] st h = zrun zP sv C 205 27 [l0] st h := zx_go rfl rfl
theorem zs_205_16 : zrun zP sv C 205 16 [.val (.int x)] st h = zrun zP sv C 205 17 [.val (.int x)] (.int x :: st) h := zx_go rfl rfl
theorem zs_205_17 : zrun zP sv C 205 17 [l0] st h = zrun zP sv C 205 19 [l0] (.int (nI 110) :: st) h := zx_go rfl rfl
theorem zs_205_19 : zrun zP sv C 205 19 [l0] (.int y :: .int x :: st) h = if x = y then zrun zP sv C 205 22 [l0] st h else zrun zP sv C 205 26 [l0] st h := (zx_ic rfl rfl).trans zc1_if
theorem zs_205_22 : zrun zP sv C 205 22 [l0] st h = zrun zP sv C 205 23 [l0] (.int (nI 1) :: st) h := zx_go rfl rfl
theorem zs_205_23 : zrun zP sv C 205 23 [l0] st h = zrun zP sv C 205 27 [l0] st h := zx_go rfl rfl
theorem zs_205_26 : zrun zP sv C 205 26 [l0] st h = zrun zP sv C 205 27 [l0] (.int (nI 2) :: st) h := zx_go rfl rfl
theorem zs_205_27 : zrun zP sv C 205 27 [l0] [.int x] h = some (.inl (some (.int x)), h) := zx_end rfl rfl
theorem zs_206_0 : zrun zP sv C 206 0 [l0, l1, l2, l3] st h = zrun zP sv C 206 2 [l0, l1, l2, l3] (.int (nI 9) :: st) h := zx_go rfl rfl
theorem zs_206_2 : zrun zP sv C 206 2 [l0, l1, l2, l3] st h = zrun zP sv C 206 4 [l0, l1, l2, l3] (.int (nI 63) :: st) h := zx_go rfl rfl
theorem zs_206_4 : zrun zP sv C 206 4 [l0, .val (.int x), l2, l3] st h = zrun zP sv C 206 5 [l0, .val (.int x), l2, l3] (.int x :: st) h := zx_go rfl rfl
theorem zs_206_5 : zrun zP sv C 206 5 [l0, l1, l2, l3] (.int y :: .int x :: st) h = zrun zP sv C 206 6 [l0, l1, l2, l3] (.int (x * y) :: st) h := zx_go rfl rfl
theorem zs_206_6 : zrun zP sv C 206 6 [l0, l1, l2, l3] (.int y :: .int x :: st) h = zrun zP sv C 206 7 [l0, l1, l2, l3] (.int (x + y) :: st) h := zx_go rfl rfl
theorem zs_206_7 (hs : znw l2 = true) : zrun zP sv C 206 7 [l0, l1, l2, l3] (.int x :: st) h = zrun zP sv C 206 8 [l0, l1, .val (.int x), l3] st h := zx_st hs rfl rfl rfl rfl rfl rfl
theorem zs_206_8 : zrun zP sv C 206 8 [.val (.ref a), l1, l2, l3] st h = zrun zP sv C 206 9 [.val (.ref a), l1, l2, l3] (.ref a :: st) h := zx_go rfl rfl
theorem zs_206_9 : zrun zP sv C 206 9 [.val (.ref a), l1, l2, l3] st h = zrun zP sv C 206 10 [.val (.ref a), l1, l2, l3] (.ref a :: st) h := zx_go rfl rfl
theorem zs_206_10 : zrun zP sv C 206 10 [l0, l1, l2, l3] (.ref a :: st) h = zfld (h.1 a) 13 0 (fun v => zrun zP sv C 206 13 [l0, l1, l2, l3] (v :: st) h) := zx_getf rfl rfl
theorem zs_206_13 : zrun zP sv C 206 13 [l0, l1, .val (.int x), l3] st h = zrun zP sv C 206 14 [l0, l1, .val (.int x), l3] (.int x :: st) h := zx_go rfl rfl
theorem zs_206_14 : zrun zP sv C 206 14 [l0, l1, l2, l3] (.int x :: .ref a :: st) h = zael (h.1 a) 20 x (fun v => zrun zP sv C 206 15 [l0, l1, l2, l3] (v :: st) h) := zx_ald rfl rfl
theorem zs_206_15 : zrun zP sv C 206 15 [l0, l1, l2, l3] (.int x :: .ref a :: st) h = zpfd (h.1 a) 13 8 0 (.int x) (fun c => zrun zP sv C 206 18 [l0, l1, l2, l3] st (zup h a c)) := zx_putf (x0 := 0) rfl rfl
theorem zs_206_18 : zrun zP sv C 206 18 [l0, l1, l2, l3] st h = zrun zP sv C 206 19 [l0, l1, l2, l3] (.int 0 :: st) h := zx_go rfl rfl
theorem zs_206_19 (hs : znw l3 = true) : zrun zP sv C 206 19 [l0, l1, l2, l3] (.int x :: st) h = zrun zP sv C 206 20 [l0, l1, l2, .val (.int x)] st h := zx_st hs rfl rfl rfl rfl rfl rfl
theorem zs_206_20 : zrun zP sv C 206 20 [l0, l1, l2, .val (.int x)] st h = zrun zP sv C 206 21 [l0, l1, l2, .val (.int x)] (.int x :: st) h := zx_go rfl rfl
theorem zs_206_21 : zrun zP sv C 206 21 [.val (.ref a), l1, l2, l3] st h = zrun zP sv C 206 22 [.val (.ref a), l1, l2, l3] (.ref a :: st) h := zx_go rfl rfl
theorem zs_206_22 : zrun zP sv C 206 22 [l0, l1, l2, l3] (.ref a :: st) h = zfld (h.1 a) 13 8 (fun v => zrun zP sv C 206 25 [l0, l1, l2, l3] (v :: st) h) := zx_getf rfl rfl
theorem zs_206_25 : zrun zP sv C 206 25 [l0, l1, l2, l3] (.int y :: .int x :: st) h = if x < y then zrun zP sv C 206 28 [l0, l1, l2, l3] st h else zrun zP sv C 206 71 [l0, l1, l2, l3] st h := (zx_ic rfl rfl).trans zc3_if
theorem zs_206_28 : zrun zP sv C 206 28 [.val (.ref a), l1, l2, l3] st h = zrun zP sv C 206 29 [.val (.ref a), l1, l2, l3] (.ref a :: st) h := zx_go rfl rfl
theorem zs_206_29 : zrun zP sv C 206 29 [l0, l1, l2, l3] (.ref a :: st) h = zfld (h.1 a) 13 6 (fun v => zrun zP sv C 206 32 [l0, l1, l2, l3] (v :: st) h) := zx_getf rfl rfl
theorem zs_206_32 : zrun zP sv C 206 32 [l0, l1, l2, .val (.int x)] st h = zrun zP sv C 206 33 [l0, l1, l2, .val (.int x)] (.int x :: st) h := zx_go rfl rfl
theorem zs_206_33 : zrun zP sv C 206 33 [.val (.ref a), l1, l2, l3] st h = zrun zP sv C 206 34 [.val (.ref a), l1, l2, l3] (.ref a :: st) h := zx_go rfl rfl
theorem zs_206_34 : zrun zP sv C 206 34 [l0, l1, l2, l3] (.ref a :: st) h = zfld (h.1 a) 13 0 (fun v => zrun zP sv C 206 37 [l0, l1, l2, l3] (v :: st) h) := zx_getf rfl rfl
theorem zs_206_37 : zrun zP sv C 206 37 [l0, l1, .val (.int x), l3] st h = zrun zP sv C 206 38 [l0, l1, .val (.int x), l3] (.int x :: st) h := zx_go rfl rfl
theorem zs_206_38 : zrun zP sv C 206 38 [l0, l1, l2, l3] st h = zrun zP sv C 206 39 [l0, l1, l2, l3] (.int (nI 1) :: st) h := zx_go rfl rfl
theorem zs_206_39 : zrun zP sv C 206 39 [l0, l1, l2, l3] (.int y :: .int x :: st) h = zrun zP sv C 206 40 [l0, l1, l2, l3] (.int (x + y) :: st) h := zx_go rfl rfl
theorem zs_206_40 : zrun zP sv C 206 40 [l0, l1, l2, l3] st h = zrun zP sv C 206 41 [l0, l1, l2, l3] (.int (nI 2) :: st) h := zx_go rfl rfl
theorem zs_206_41 : zrun zP sv C 206 41 [l0, l1, l2, .val (.int x)] st h = zrun zP sv C 206 42 [l0, l1, l2, .val (.int x)] (.int x :: st) h := zx_go rfl rfl
theorem zs_206_42 : zrun zP sv C 206 42 [l0, l1, l2, l3] (.int y :: .int x :: st) h = zrun zP sv C 206 43 [l0, l1, l2, l3] (.int (x * y) :: st) h := zx_go rfl rfl
theorem zs_206_43 : zrun zP sv C 206 43 [l0, l1, l2, l3] (.int y :: .int x :: st) h = zrun zP sv C 206 44 [l0, l1, l2, l3] (.int (x + y) :: st) h := zx_go rfl rfl
theorem zs_206_44 : zrun zP sv C 206 44 [l0, l1, l2, l3] (.int x :: .ref a :: st) h = zael (h.1 a) 20 x (fun v => zrun zP sv C 206 45 [l0, l1, l2, l3] (v :: st) h) := zx_ald rfl rfl
theorem zs_206_45 : zrun zP sv C 206 45 [l0, l1, l2, l3] (.int x :: st) h = zrun zP sv C 206 46 [l0, l1, l2, l3] (.int (x.toUInt32 % 65536).toInt32 :: st) h := zx_go rfl rfl
theorem zs_206_46 : zrun zP sv C 206 46 [l0, l1, l2, l3] (.int y :: .int x :: .ref a :: st) h = zaset (h.1 a) 21 x (.int y) (fun c => zrun zP sv C 206 47 [l0, l1, l2, l3] st (zup h a c)) := zx_ast rfl rfl
theorem zs_206_47 : zrun zP sv C 206 47 [.val (.ref a), l1, l2, l3] st h = zrun zP sv C 206 48 [.val (.ref a), l1, l2, l3] (.ref a :: st) h := zx_go rfl rfl
theorem zs_206_48 : zrun zP sv C 206 48 [l0, l1, l2, l3] (.ref a :: st) h = zfld (h.1 a) 13 7 (fun v => zrun zP sv C 206 51 [l0, l1, l2, l3] (v :: st) h) := zx_getf rfl rfl
theorem zs_206_51 : zrun zP sv C 206 51 [l0, l1, l2, .val (.int x)] st h = zrun zP sv C 206 52 [l0, l1, l2, .val (.int x)] (.int x :: st) h := zx_go rfl rfl
theorem zs_206_52 : zrun zP sv C 206 52 [.val (.ref a), l1, l2, l3] st h = zrun zP sv C 206 53 [.val (.ref a), l1, l2, l3] (.ref a :: st) h := zx_go rfl rfl
theorem zs_206_53 : zrun zP sv C 206 53 [l0, l1, l2, l3] (.ref a :: st) h = zfld (h.1 a) 13 0 (fun v => zrun zP sv C 206 56 [l0, l1, l2, l3] (v :: st) h) := zx_getf rfl rfl
theorem zs_206_56 : zrun zP sv C 206 56 [l0, l1, .val (.int x), l3] st h = zrun zP sv C 206 57 [l0, l1, .val (.int x), l3] (.int x :: st) h := zx_go rfl rfl
theorem zs_206_57 : zrun zP sv C 206 57 [l0, l1, l2, l3] st h = zrun zP sv C 206 58 [l0, l1, l2, l3] (.int (nI 2) :: st) h := zx_go rfl rfl
theorem zs_206_58 : zrun zP sv C 206 58 [l0, l1, l2, l3] (.int y :: .int x :: st) h = zrun zP sv C 206 59 [l0, l1, l2, l3] (.int (x + y) :: st) h := zx_go rfl rfl
theorem zs_206_59 : zrun zP sv C 206 59 [l0, l1, l2, l3] st h = zrun zP sv C 206 60 [l0, l1, l2, l3] (.int (nI 2) :: st) h := zx_go rfl rfl
theorem zs_206_60 : zrun zP sv C 206 60 [l0, l1, l2, .val (.int x)] st h = zrun zP sv C 206 61 [l0, l1, l2, .val (.int x)] (.int x :: st) h := zx_go rfl rfl
theorem zs_206_61 : zrun zP sv C 206 61 [l0, l1, l2, l3] (.int y :: .int x :: st) h = zrun zP sv C 206 62 [l0, l1, l2, l3] (.int (x * y) :: st) h := zx_go rfl rfl
theorem zs_206_62 : zrun zP sv C 206 62 [l0, l1, l2, l3] (.int y :: .int x :: st) h = zrun zP sv C 206 63 [l0, l1, l2, l3] (.int (x + y) :: st) h := zx_go rfl rfl
theorem zs_206_63 : zrun zP sv C 206 63 [l0, l1, l2, l3] (.int x :: .ref a :: st) h = zael (h.1 a) 20 x (fun v => zrun zP sv C 206 64 [l0, l1, l2, l3] (v :: st) h) := zx_ald rfl rfl
theorem zs_206_64 : zrun zP sv C 206 64 [l0, l1, l2, l3] (.int y :: .int x :: .ref a :: st) h = zaset (h.1 a) 20 x (.int y) (fun c => zrun zP sv C 206 65 [l0, l1, l2, l3] st (zup h a c)) := zx_ast rfl rfl
theorem zs_206_65 : zrun zP sv C 206 65 [l0, l1, l2, .val (.int x)] st h = zrun zP sv C 206 68 [l0, l1, l2, .val (.int (x + (nI 1)))] st h := zx_ii rfl rfl rfl rfl rfl
theorem zs_206_68 : zrun zP sv C 206 68 [l0, l1, l2, l3] st h = zrun zP sv C 206 20 [l0, l1, l2, l3] st h := zx_go rfl rfl
theorem zs_206_71 : zrun zP sv C 206 71 [l0, l1, l2, l3] [] h = some (.inl none, h) := zx_end rfl rfl
theorem zs_207_0 : zrun zP sv C 207 0 [.val (.ref a), l1] st h = zrun zP sv C 207 1 [.val (.ref a), l1] (.ref a :: st) h := zx_go rfl rfl
theorem zs_207_1 : zrun zP sv C 207 1 [.val (.ref a), l1] st h = zrun zP sv C 207 2 [.val (.ref a), l1] (.ref a :: st) h := zx_go rfl rfl
theorem zs_207_2 : zrun zP sv C 207 2 [l0, l1] (.ref a :: st) h = zfld (h.1 a) 13 11 (fun v => zrun zP sv C 207 5 [l0, l1] (v :: st) h) := zx_getf rfl rfl
theorem zs_207_5 : zrun zP sv C 207 5 [l0, l1] (.int x :: .ref a :: st) h = zpfd (h.1 a) 13 8 0 (.int x) (fun c => zrun zP sv C 207 8 [l0, l1] st (zup h a c)) := zx_putf (x0 := 0) rfl rfl
theorem zs_207_8 : zrun zP sv C 207 8 [l0, l1] st h = zrun zP sv C 207 9 [l0, l1] (.int 0 :: st) h := zx_go rfl rfl
theorem zs_207_9 (hs : znw l1 = true) : zrun zP sv C 207 9 [l0, l1] (.int x :: st) h = zrun zP sv C 207 10 [l0, .val (.int x)] st h := zx_st hs rfl rfl rfl rfl rfl rfl
theorem zs_207_10 : zrun zP sv C 207 10 [l0, .val (.int x)] st h = zrun zP sv C 207 11 [l0, .val (.int x)] (.int x :: st) h := zx_go rfl rfl
theorem zs_207_11 : zrun zP sv C 207 11 [.val (.ref a), l1] st h = zrun zP sv C 207 12 [.val (.ref a), l1] (.ref a :: st) h := zx_go rfl rfl
theorem zs_207_12 : zrun zP sv C 207 12 [l0, l1] (.ref a :: st) h = zfld (h.1 a) 13 8 (fun v => zrun zP sv C 207 15 [l0, l1] (v :: st) h) := zx_getf rfl rfl
theorem zs_207_15 : zrun zP sv C 207 15 [l0, l1] (.int y :: .int x :: st) h = if x < y then zrun zP sv C 207 18 [l0, l1] st h else zrun zP sv C 207 48 [l0, l1] st h := (zx_ic rfl rfl).trans zc3_if
theorem zs_207_18 : zrun zP sv C 207 18 [.val (.ref a), l1] st h = zrun zP sv C 207 19 [.val (.ref a), l1] (.ref a :: st) h := zx_go rfl rfl
theorem zs_207_19 : zrun zP sv C 207 19 [l0, l1] (.ref a :: st) h = zfld (h.1 a) 13 6 (fun v => zrun zP sv C 207 22 [l0, l1] (v :: st) h) := zx_getf rfl rfl
theorem zs_207_22 : zrun zP sv C 207 22 [l0, .val (.int x)] st h = zrun zP sv C 207 23 [l0, .val (.int x)] (.int x :: st) h := zx_go rfl rfl
theorem zs_207_23 : zrun zP sv C 207 23 [.val (.ref a), l1] st h = zrun zP sv C 207 24 [.val (.ref a), l1] (.ref a :: st) h := zx_go rfl rfl
theorem zs_207_24 : zrun zP sv C 207 24 [l0, l1] (.ref a :: st) h = zfld (h.1 a) 13 9 (fun v => zrun zP sv C 207 27 [l0, l1] (v :: st) h) := zx_getf rfl rfl
theorem zs_207_27 : zrun zP sv C 207 27 [l0, .val (.int x)] st h = zrun zP sv C 207 28 [l0, .val (.int x)] (.int x :: st) h := zx_go rfl rfl
theorem zs_207_28 : zrun zP sv C 207 28 [l0, l1] (.int x :: .ref a :: st) h = zael (h.1 a) 21 x (fun v => zrun zP sv C 207 29 [l0, l1] (v :: st) h) := zx_ald rfl rfl
theorem zs_207_29 : zrun zP sv C 207 29 [l0, l1] (.int y :: .int x :: .ref a :: st) h = zaset (h.1 a) 21 x (.int y) (fun c => zrun zP sv C 207 30 [l0, l1] st (zup h a c)) := zx_ast rfl rfl
theorem zs_207_30 : zrun zP sv C 207 30 [.val (.ref a), l1] st h = zrun zP sv C 207 31 [.val (.ref a), l1] (.ref a :: st) h := zx_go rfl rfl
theorem zs_207_31 : zrun zP sv C 207 31 [l0, l1] (.ref a :: st) h = zfld (h.1 a) 13 7 (fun v => zrun zP sv C 207 34 [l0, l1] (v :: st) h) := zx_getf rfl rfl
theorem zs_207_34 : zrun zP sv C 207 34 [l0, .val (.int x)] st h = zrun zP sv C 207 35 [l0, .val (.int x)] (.int x :: st) h := zx_go rfl rfl
theorem zs_207_35 : zrun zP sv C 207 35 [.val (.ref a), l1] st h = zrun zP sv C 207 36 [.val (.ref a), l1] (.ref a :: st) h := zx_go rfl rfl
theorem zs_207_36 : zrun zP sv C 207 36 [l0, l1] (.ref a :: st) h = zfld (h.1 a) 13 10 (fun v => zrun zP sv C 207 39 [l0, l1] (v :: st) h) := zx_getf rfl rfl
theorem zs_207_39 : zrun zP sv C 207 39 [l0, .val (.int x)] st h = zrun zP sv C 207 40 [l0, .val (.int x)] (.int x :: st) h := zx_go rfl rfl
theorem zs_207_40 : zrun zP sv C 207 40 [l0, l1] (.int x :: .ref a :: st) h = zael (h.1 a) 20 x (fun v => zrun zP sv C 207 41 [l0, l1] (v :: st) h) := zx_ald rfl rfl
theorem zs_207_41 : zrun zP sv C 207 41 [l0, l1] (.int y :: .int x :: .ref a :: st) h = zaset (h.1 a) 20 x (.int y) (fun c => zrun zP sv C 207 42 [l0, l1] st (zup h a c)) := zx_ast rfl rfl
theorem zs_207_42 : zrun zP sv C 207 42 [l0, .val (.int x)] st h = zrun zP sv C 207 45 [l0, .val (.int (x + (nI 1)))] st h := zx_ii rfl rfl rfl rfl rfl
theorem zs_207_45 : zrun zP sv C 207 45 [l0, l1] st h = zrun zP sv C 207 10 [l0, l1] st h := zx_go rfl rfl
theorem zs_207_48 : zrun zP sv C 207 48 [l0, l1] [] h = some (.inl none, h) := zx_end rfl rfl
theorem zs_208_0 : zrun zP sv C 208 0 [l0, l1, l2, l3] st h = zrun zP sv C 208 2 [l0, l1, l2, l3] (.int (nI 9) :: st) h := zx_go rfl rfl
theorem zs_208_2 : zrun zP sv C 208 2 [l0, l1, l2, l3] st h = zrun zP sv C 208 4 [l0, l1, l2, l3] (.int (nI 63) :: st) h := zx_go rfl rfl
theorem zs_208_4 : zrun zP sv C 208 4 [l0, .val (.int x), l2, l3] st h = zrun zP sv C 208 5 [l0, .val (.int x), l2, l3] (.int x :: st) h := zx_go rfl rfl
theorem zs_208_5 : zrun zP sv C 208 5 [l0, l1, l2, l3] (.int y :: .int x :: st) h = zrun zP sv C 208 6 [l0, l1, l2, l3] (.int (x * y) :: st) h := zx_go rfl rfl
theorem zs_208_6 : zrun zP sv C 208 6 [l0, l1, l2, l3] (.int y :: .int x :: st) h = zrun zP sv C 208 7 [l0, l1, l2, l3] (.int (x + y) :: st) h := zx_go rfl rfl
theorem zs_208_7 (hs : znw l2 = true) : zrun zP sv C 208 7 [l0, l1, l2, l3] (.int x :: st) h = zrun zP sv C 208 8 [l0, l1, .val (.int x), l3] st h := zx_st hs rfl rfl rfl rfl rfl rfl
theorem zs_208_8 : zrun zP sv C 208 8 [l0, l1, l2, l3] st h = zrun zP sv C 208 9 [l0, l1, l2, l3] (.int 0 :: st) h := zx_go rfl rfl
theorem zs_208_9 (hs : znw l3 = true) : zrun zP sv C 208 9 [l0, l1, l2, l3] (.int x :: st) h = zrun zP sv C 208 10 [l0, l1, l2, .val (.int x)] st h := zx_st hs rfl rfl rfl rfl rfl rfl
theorem zs_208_10 : zrun zP sv C 208 10 [l0, l1, l2, .val (.int x)] st h = zrun zP sv C 208 11 [l0, l1, l2, .val (.int x)] (.int x :: st) h := zx_go rfl rfl
theorem zs_208_11 : zrun zP sv C 208 11 [l0, l1, l2, l3] st h = zrun zP sv C 208 13 [l0, l1, l2, l3] (.int (nI 63) :: st) h := zx_go rfl rfl
theorem zs_208_13 : zrun zP sv C 208 13 [l0, l1, l2, l3] (.int y :: .int x :: st) h = if x < y then zrun zP sv C 208 16 [l0, l1, l2, l3] st h else zrun zP sv C 208 31 [l0, l1, l2, l3] st h := (zx_ic rfl rfl).trans zc3_if
theorem zs_208_16 : zrun zP sv C 208 16 [.val (.ref a), l1, l2, l3] st h = zrun zP sv C 208 17 [.val (.ref a), l1, l2, l3] (.ref a :: st) h := zx_go rfl rfl
theorem zs_208_17 : zrun zP sv C 208 17 [l0, l1, l2, l3] (.ref a :: st) h = zfld (h.1 a) 13 0 (fun v => zrun zP sv C 208 20 [l0, l1, l2, l3] (v :: st) h) := zx_getf rfl rfl
theorem zs_208_20 : zrun zP sv C 208 20 [l0, l1, .val (.int x), l3] st h = zrun zP sv C 208 21 [l0, l1, .val (.int x), l3] (.int x :: st) h := zx_go rfl rfl
theorem zs_208_21 : zrun zP sv C 208 21 [l0, l1, l2, .val (.int x)] st h = zrun zP sv C 208 22 [l0, l1, l2, .val (.int x)] (.int x :: st) h := zx_go rfl rfl
theorem zs_208_22 : zrun zP sv C 208 22 [l0, l1, l2, l3] (.int y :: .int x :: st) h = zrun zP sv C 208 23 [l0, l1, l2, l3] (.int (x + y) :: st) h := zx_go rfl rfl
theorem zs_208_23 : zrun zP sv C 208 23 [l0, l1, l2, l3] st h = zrun zP sv C 208 24 [l0, l1, l2, l3] (.int 0 :: st) h := zx_go rfl rfl
theorem zs_208_24 : zrun zP sv C 208 24 [l0, l1, l2, l3] (.int y :: .int x :: .ref a :: st) h = zaset (h.1 a) 20 x (.int y) (fun c => zrun zP sv C 208 25 [l0, l1, l2, l3] st (zup h a c)) := zx_ast rfl rfl
theorem zs_208_25 : zrun zP sv C 208 25 [l0, l1, l2, .val (.int x)] st h = zrun zP sv C 208 28 [l0, l1, l2, .val (.int (x + (nI 1)))] st h := zx_ii rfl rfl rfl rfl rfl
theorem zs_208_28 : zrun zP sv C 208 28 [l0, l1, l2, l3] st h = zrun zP sv C 208 10 [l0, l1, l2, l3] st h := zx_go rfl rfl
theorem zs_208_31 : zrun zP sv C 208 31 [.val (.ref a), l1, l2, l3] st h = zrun zP sv C 208 32 [.val (.ref a), l1, l2, l3] (.ref a :: st) h := zx_go rfl rfl
theorem zs_208_32 : zrun zP sv C 208 32 [l0, l1, l2, l3] (.ref a :: st) h = zfld (h.1 a) 13 0 (fun v => zrun zP sv C 208 35 [l0, l1, l2, l3] (v :: st) h) := zx_getf rfl rfl
theorem zs_208_35 : zrun zP sv C 208 35 [l0, l1, .val (.int x), l3] st h = zrun zP sv C 208 36 [l0, l1, .val (.int x), l3] (.int x :: st) h := zx_go rfl rfl
theorem zs_208_36 : zrun zP sv C 208 36 [.val (.ref a), l1, l2, l3] st h = zrun zP sv C 208 37 [.val (.ref a), l1, l2, l3] (.ref a :: st) h := zx_go rfl rfl
theorem zs_208_37 : zrun zP sv C 208 37 [l0, l1, l2, l3] (.ref a :: st) h = zfld (h.1 a) 13 8 (fun v => zrun zP sv C 208 40 [l0, l1, l2, l3] (v :: st) h) := zx_getf rfl rfl
theorem zs_208_40 : zrun zP sv C 208 40 [l0, l1, l2, l3] (.int y :: .int x :: .ref a :: st) h = zaset (h.1 a) 20 x (.int y) (fun c => zrun zP sv C 208 41 [l0, l1, l2, l3] st (zup h a c)) := zx_ast rfl rfl
theorem zs_208_41 : zrun zP sv C 208 41 [l0, l1, l2, l3] st h = zrun zP sv C 208 42 [l0, l1, l2, l3] (.int 0 :: st) h := zx_go rfl rfl
theorem zs_208_42 (hs : znw l3 = true) : zrun zP sv C 208 42 [l0, l1, l2, l3] (.int x :: st) h = zrun zP sv C 208 43 [l0, l1, l2, .val (.int x)] st h := zx_st hs rfl rfl rfl rfl rfl rfl
theorem zs_208_43 : zrun zP sv C 208 43 [l0, l1, l2, .val (.int x)] st h = zrun zP sv C 208 44 [l0, l1, l2, .val (.int x)] (.int x :: st) h := zx_go rfl rfl
theorem zs_208_44 : zrun zP sv C 208 44 [.val (.ref a), l1, l2, l3] st h = zrun zP sv C 208 45 [.val (.ref a), l1, l2, l3] (.ref a :: st) h := zx_go rfl rfl
theorem zs_208_45 : zrun zP sv C 208 45 [l0, l1, l2, l3] (.ref a :: st) h = zfld (h.1 a) 13 8 (fun v => zrun zP sv C 208 48 [l0, l1, l2, l3] (v :: st) h) := zx_getf rfl rfl
theorem zs_208_48 : zrun zP sv C 208 48 [l0, l1, l2, l3] (.int y :: .int x :: st) h = if x < y then zrun zP sv C 208 51 [l0, l1, l2, l3] st h else zrun zP sv C 208 93 [l0, l1, l2, l3] st h := (zx_ic rfl rfl).trans zc3_if
theorem zs_208_51 : zrun zP sv C 208 51 [.val (.ref a), l1, l2, l3] st h = zrun zP sv C 208 52 [.val (.ref a), l1, l2, l3] (.ref a :: st) h := zx_go rfl rfl
theorem zs_208_52 : zrun zP sv C 208 52 [l0, l1, l2, l3] (.ref a :: st) h = zfld (h.1 a) 13 0 (fun v => zrun zP sv C 208 55 [l0, l1, l2, l3] (v :: st) h) := zx_getf rfl rfl
theorem zs_208_55 : zrun zP sv C 208 55 [l0, l1, .val (.int x), l3] st h = zrun zP sv C 208 56 [l0, l1, .val (.int x), l3] (.int x :: st) h := zx_go rfl rfl
theorem zs_208_56 : zrun zP sv C 208 56 [l0, l1, l2, l3] st h = zrun zP sv C 208 57 [l0, l1, l2, l3] (.int (nI 1) :: st) h := zx_go rfl rfl
theorem zs_208_57 : zrun zP sv C 208 57 [l0, l1, l2, l3] (.int y :: .int x :: st) h = zrun zP sv C 208 58 [l0, l1, l2, l3] (.int (x + y) :: st) h := zx_go rfl rfl
theorem zs_208_58 : zrun zP sv C 208 58 [l0, l1, l2, l3] st h = zrun zP sv C 208 59 [l0, l1, l2, l3] (.int (nI 2) :: st) h := zx_go rfl rfl
theorem zs_208_59 : zrun zP sv C 208 59 [l0, l1, l2, .val (.int x)] st h = zrun zP sv C 208 60 [l0, l1, l2, .val (.int x)] (.int x :: st) h := zx_go rfl rfl
theorem zs_208_60 : zrun zP sv C 208 60 [l0, l1, l2, l3] (.int y :: .int x :: st) h = zrun zP sv C 208 61 [l0, l1, l2, l3] (.int (x * y) :: st) h := zx_go rfl rfl
theorem zs_208_61 : zrun zP sv C 208 61 [l0, l1, l2, l3] (.int y :: .int x :: st) h = zrun zP sv C 208 62 [l0, l1, l2, l3] (.int (x + y) :: st) h := zx_go rfl rfl
theorem zs_208_62 : zrun zP sv C 208 62 [.val (.ref a), l1, l2, l3] st h = zrun zP sv C 208 63 [.val (.ref a), l1, l2, l3] (.ref a :: st) h := zx_go rfl rfl
theorem zs_208_63 : zrun zP sv C 208 63 [l0, l1, l2, l3] (.ref a :: st) h = zfld (h.1 a) 13 6 (fun v => zrun zP sv C 208 66 [l0, l1, l2, l3] (v :: st) h) := zx_getf rfl rfl
theorem zs_208_66 : zrun zP sv C 208 66 [l0, l1, l2, .val (.int x)] st h = zrun zP sv C 208 67 [l0, l1, l2, .val (.int x)] (.int x :: st) h := zx_go rfl rfl
theorem zs_208_67 : zrun zP sv C 208 67 [l0, l1, l2, l3] (.int x :: .ref a :: st) h = zael (h.1 a) 21 x (fun v => zrun zP sv C 208 68 [l0, l1, l2, l3] (v :: st) h) := zx_ald rfl rfl
theorem zs_208_68 : zrun zP sv C 208 68 [l0, l1, l2, l3] (.int y :: .int x :: .ref a :: st) h = zaset (h.1 a) 20 x (.int y) (fun c => zrun zP sv C 208 69 [l0, l1, l2, l3] st (zup h a c)) := zx_ast rfl rfl
theorem zs_208_69 : zrun zP sv C 208 69 [.val (.ref a), l1, l2, l3] st h = zrun zP sv C 208 70 [.val (.ref a), l1, l2, l3] (.ref a :: st) h := zx_go rfl rfl
theorem zs_208_70 : zrun zP sv C 208 70 [l0, l1, l2, l3] (.ref a :: st) h = zfld (h.1 a) 13 0 (fun v => zrun zP sv C 208 73 [l0, l1, l2, l3] (v :: st) h) := zx_getf rfl rfl
theorem zs_208_73 : zrun zP sv C 208 73 [l0, l1, .val (.int x), l3] st h = zrun zP sv C 208 74 [l0, l1, .val (.int x), l3] (.int x :: st) h := zx_go rfl rfl
theorem zs_208_74 : zrun zP sv C 208 74 [l0, l1, l2, l3] st h = zrun zP sv C 208 75 [l0, l1, l2, l3] (.int (nI 2) :: st) h := zx_go rfl rfl
theorem zs_208_75 : zrun zP sv C 208 75 [l0, l1, l2, l3] (.int y :: .int x :: st) h = zrun zP sv C 208 76 [l0, l1, l2, l3] (.int (x + y) :: st) h := zx_go rfl rfl
theorem zs_208_76 : zrun zP sv C 208 76 [l0, l1, l2, l3] st h = zrun zP sv C 208 77 [l0, l1, l2, l3] (.int (nI 2) :: st) h := zx_go rfl rfl
theorem zs_208_77 : zrun zP sv C 208 77 [l0, l1, l2, .val (.int x)] st h = zrun zP sv C 208 78 [l0, l1, l2, .val (.int x)] (.int x :: st) h := zx_go rfl rfl
theorem zs_208_78 : zrun zP sv C 208 78 [l0, l1, l2, l3] (.int y :: .int x :: st) h = zrun zP sv C 208 79 [l0, l1, l2, l3] (.int (x * y) :: st) h := zx_go rfl rfl
theorem zs_208_79 : zrun zP sv C 208 79 [l0, l1, l2, l3] (.int y :: .int x :: st) h = zrun zP sv C 208 80 [l0, l1, l2, l3] (.int (x + y) :: st) h := zx_go rfl rfl
theorem zs_208_80 : zrun zP sv C 208 80 [.val (.ref a), l1, l2, l3] st h = zrun zP sv C 208 81 [.val (.ref a), l1, l2, l3] (.ref a :: st) h := zx_go rfl rfl
theorem zs_208_81 : zrun zP sv C 208 81 [l0, l1, l2, l3] (.ref a :: st) h = zfld (h.1 a) 13 7 (fun v => zrun zP sv C 208 84 [l0, l1, l2, l3] (v :: st) h) := zx_getf rfl rfl
theorem zs_208_84 : zrun zP sv C 208 84 [l0, l1, l2, .val (.int x)] st h = zrun zP sv C 208 85 [l0, l1, l2, .val (.int x)] (.int x :: st) h := zx_go rfl rfl
theorem zs_208_85 : zrun zP sv C 208 85 [l0, l1, l2, l3] (.int x :: .ref a :: st) h = zael (h.1 a) 20 x (fun v => zrun zP sv C 208 86 [l0, l1, l2, l3] (v :: st) h) := zx_ald rfl rfl
theorem zs_208_86 : zrun zP sv C 208 86 [l0, l1, l2, l3] (.int y :: .int x :: .ref a :: st) h = zaset (h.1 a) 20 x (.int y) (fun c => zrun zP sv C 208 87 [l0, l1, l2, l3] st (zup h a c)) := zx_ast rfl rfl
theorem zs_208_87 : zrun zP sv C 208 87 [l0, l1, l2, .val (.int x)] st h = zrun zP sv C 208 90 [l0, l1, l2, .val (.int (x + (nI 1)))] st h := zx_ii rfl rfl rfl rfl rfl
theorem zs_208_90 : zrun zP sv C 208 90 [l0, l1, l2, l3] st h = zrun zP sv C 208 43 [l0, l1, l2, l3] st h := zx_go rfl rfl
theorem zs_208_93 : zrun zP sv C 208 93 [l0, l1, l2, l3] [] h = some (.inl none, h) := zx_end rfl rfl
theorem zs_209_0 : zrun zP sv C 209 0 [l0, .val (.int x), l2, l3] st h = zrun zP sv C 209 1 [l0, .val (.int x), l2, l3] (.int x :: st) h := zx_go rfl rfl
theorem zs_209_1 (hs : znw l2 = true) : zrun zP sv C 209 1 [l0, l1, l2, l3] (.int x :: st) h = zrun zP sv C 209 2 [l0, l1, .val (.int x), l3] st h := zx_st hs rfl rfl rfl rfl rfl rfl
theorem zs_209_2 : zrun zP sv C 209 2 [l0, l1, l2, l3] st h = zrun zP sv C 209 3 [l0, l1, l2, l3] (.int (nI 1) :: st) h := zx_go rfl rfl
theorem zs_209_3 (hs : znw l3 = true) : zrun zP sv C 209 3 [l0, l1, l2, l3] (.int x :: st) h = zrun zP sv C 209 4 [l0, l1, l2, .val (.int x)] st h := zx_st hs rfl rfl rfl rfl rfl rfl
theorem zs_209_4 : zrun zP sv C 209 4 [l0, l1, l2, .val (.int x)] st h = zrun zP sv C 209 5 [l0, l1, l2, .val (.int x)] (.int x :: st) h := zx_go rfl rfl
theorem zs_209_5 : zrun zP sv C 209 5 [l0, l1, l2, l3] (.int x :: st) h = if 0 < x then zrun zP sv C 209 8 [l0, l1, l2, l3] st h else zrun zP sv C 209 28 [l0, l1, l2, l3] st h := (zx_if rfl rfl).trans zc5_if
theorem zs_209_8 : zrun zP sv C 209 8 [l0, l1, l2, .val (.int x)] st h = zrun zP sv C 209 9 [l0, l1, l2, .val (.int x)] (.int x :: st) h := zx_go rfl rfl
theorem zs_209_9 : zrun zP sv C 209 9 [.val (.ref a), l1, l2, l3] st h = zrun zP sv C 209 10 [.val (.ref a), l1, l2, l3] (.ref a :: st) h := zx_go rfl rfl
theorem zs_209_10 : zrun zP sv C 209 10 [l0, l1, l2, l3] (.ref a :: st) h = zfld (h.1 a) 13 6 (fun v => zrun zP sv C 209 13 [l0, l1, l2, l3] (v :: st) h) := zx_getf rfl rfl
theorem zs_209_13 : zrun zP sv C 209 13 [l0, l1, .val (.int x), l3] st h = zrun zP sv C 209 14 [l0, l1, .val (.int x), l3] (.int x :: st) h := zx_go rfl rfl
theorem zs_209_14 : zrun zP sv C 209 14 [l0, l1, .val (.int x), l3] st h = zrun zP sv C 209 17 [l0, l1, .val (.int (x + (nI 1))), l3] st h := zx_ii rfl rfl rfl rfl rfl
theorem zs_209_17 : zrun zP sv C 209 17 [l0, l1, l2, l3] (.int x :: .ref a :: st) h = zael (h.1 a) 21 x (fun v => zrun zP sv C 209 18 [l0, l1, l2, l3] (v :: st) h) := zx_ald rfl rfl
theorem zs_209_18 : zrun zP sv C 209 18 [l0, l1, l2, l3] [v0, r0] h = zbk (C 205 [v0] h) (fun v h' => zrun zP sv C 209 21 [l0, l1, l2, l3] (v.toList ++ [r0]) h') (fun E h' => some (.inr E, h')) := zx_cs rfl rfl rfl rfl ⟨Nat.le_of_ble_eq_true rfl, rfl⟩ (fun _ _ => rfl)
theorem zs_209_21 : zrun zP sv C 209 21 [l0, l1, l2, l3] st h = zrun zP sv C 209 22 [l0, l1, l2, l3] (.int (nI 1) :: st) h := zx_go rfl rfl
theorem zs_209_22 : zrun zP sv C 209 22 [l0, l1, l2, l3] (.int y :: .int x :: st) h = zrun zP sv C 209 23 [l0, l1, l2, l3] (.int (x - y) :: st) h := zx_go rfl rfl
theorem zs_209_23 : zrun zP sv C 209 23 [l0, l1, l2, l3] (.int y :: .int x :: st) h = zrun zP sv C 209 24 [l0, l1, l2, l3] (.int (x + y) :: st) h := zx_go rfl rfl
theorem zs_209_24 (hs : znw l3 = true) : zrun zP sv C 209 24 [l0, l1, l2, l3] (.int x :: st) h = zrun zP sv C 209 25 [l0, l1, l2, .val (.int x)] st h := zx_st hs rfl rfl rfl rfl rfl rfl
theorem zs_209_25 : zrun zP sv C 209 25 [l0, l1, l2, l3] st h = zrun zP sv C 209 4 [l0, l1, l2, l3] st h := zx_go rfl rfl
theorem zs_209_28 : zrun zP sv C 209 28 [l0, l1, .val (.int x), l3] st h = zrun zP sv C 209 29 [l0, l1, .val (.int x), l3] (.int x :: st) h := zx_go rfl rfl
theorem zs_209_29 : zrun zP sv C 209 29 [l0, l1, l2, l3] [.int x] h = some (.inl (some (.int x)), h) := zx_end rfl rfl
theorem zs_210_0 : zrun zP sv C 210 0 [.val (.ref a), l1, l2, l3, l4, l5] st h = zrun zP sv C 210 1 [.val (.ref a), l1, l2, l3, l4, l5] (.ref a :: st) h := zx_go rfl rfl
theorem zs_210_1 : zrun zP sv C 210 1 [l0, .val (.int x), l2, l3, l4, l5] st h = zrun zP sv C 210 2 [l0, .val (.int x), l2, l3, l4, l5] (.int x :: st) h := zx_go rfl rfl
theorem zs_210_2 : zrun zP sv C 210 2 [l0, l1, l2, l3, l4, l5] [v1, .ref b] h = zrc (h.1 b) 13 (zbk (C 209 [.ref b, v1] h) (fun v h' => zrun zP sv C 210 5 [l0, l1, l2, l3, l4, l5] (v.toList ++ []) h') (fun E h' => some (.inr E, h'))) := zx_cv (x0 := 13) rfl rfl rfl rfl rfl ⟨Nat.le_of_ble_eq_true rfl, rfl⟩ (fun _ _ => rfl)
theorem zs_210_5 : zrun zP sv C 210 5 [l0, .val (.int x), l2, l3, l4, l5] st h = zrun zP sv C 210 6 [l0, .val (.int x), l2, l3, l4, l5] (.int x :: st) h := zx_go rfl rfl
theorem zs_210_6 : zrun zP sv C 210 6 [l0, l1, l2, l3, l4, l5] (.int y :: .int x :: st) h = zrun zP sv C 210 7 [l0, l1, l2, l3, l4, l5] (.int (x - y) :: st) h := zx_go rfl rfl
theorem zs_210_7 (hs : znw l3 = true) : zrun zP sv C 210 7 [l0, l1, l2, l3, l4, l5] (.int x :: st) h = zrun zP sv C 210 8 [l0, l1, l2, .val (.int x), l4, l5] st h := zx_st hs rfl rfl rfl rfl rfl rfl
theorem zs_210_8 : zrun zP sv C 210 8 [l0, l1, l2, .val (.int x), l4, l5] st h = zrun zP sv C 210 9 [l0, l1, l2, .val (.int x), l4, l5] (.int x :: st) h := zx_go rfl rfl
theorem zs_210_9 : zrun zP sv C 210 9 [.val (.ref a), l1, l2, l3, l4, l5] st h = zrun zP sv C 210 10 [.val (.ref a), l1, l2, l3, l4, l5] (.ref a :: st) h := zx_go rfl rfl
theorem zs_210_10 : zrun zP sv C 210 10 [l0, l1, .val (.int x), l3, l4, l5] st h = zrun zP sv C 210 11 [l0, l1, .val (.int x), l3, l4, l5] (.int x :: st) h := zx_go rfl rfl
theorem zs_210_11 : zrun zP sv C 210 11 [l0, l1, l2, l3, l4, l5] [v1, .ref b, r0] h = zrc (h.1 b) 13 (zbk (C 209 [.ref b, v1] h) (fun v h' => zrun zP sv C 210 14 [l0, l1, l2, l3, l4, l5] (v.toList ++ [r0]) h') (fun E h' => some (.inr E, h'))) := zx_cv (x0 := 13) rfl rfl rfl rfl rfl ⟨Nat.le_of_ble_eq_true rfl, rfl⟩ (fun _ _ => rfl)
theorem zs_210_14 : zrun zP sv C 210 14 [l0, l1, .val (.int x), l3, l4, l5] st h = zrun zP sv C 210 15 [l0, l1, .val (.int x), l3, l4, l5] (.int x :: st) h := zx_go rfl rfl
theorem zs_210_15 : zrun zP sv C 210 15 [l0, l1, l2, l3, l4, l5] (.int y :: .int x :: st) h = zrun zP sv C 210 16 [l0, l1, l2, l3, l4, l5] (.int (x - y) :: st) h := zx_go rfl rfl
theorem zs_210_16 : zrun zP sv C 210 16 [l0, l1, l2, l3, l4, l5] (.int y :: .int x :: st) h = if x = y then zrun zP sv C 210 19 [l0, l1, l2, l3, l4, l5] st h else zrun zP sv C 210 23 [l0, l1, l2, l3, l4, l5] st h := (zx_ic rfl rfl).trans zc1_if
theorem zs_210_19 : zrun zP sv C 210 19 [l0, l1, l2, l3, l4, l5] st h = zrun zP sv C 210 20 [l0, l1, l2, l3, l4, l5] (.int (nI 1) :: st) h := zx_go rfl rfl
theorem zs_210_20 : zrun zP sv C 210 20 [l0, l1, l2, l3, l4, l5] st h = zrun zP sv C 210 24 [l0, l1, l2, l3, l4, l5] st h := zx_go rfl rfl
theorem zs_210_23 : zrun zP sv C 210 23 [l0, l1, l2, l3, l4, l5] st h = zrun zP sv C 210 24 [l0, l1, l2, l3, l4, l5] (.int 0 :: st) h := zx_go rfl rfl
theorem zs_210_24 (hs : znw l4 = true) : zrun zP sv C 210 24 [l0, l1, l2, l3, l4, l5] (.int x :: st) h = zrun zP sv C 210 26 [l0, l1, l2, l3, .val (.int x), l5] st h := zx_st hs rfl rfl rfl rfl rfl rfl
theorem zs_210_26 : zrun zP sv C 210 26 [l0, l1, l2, l3, l4, l5] st h = zrun zP sv C 210 27 [l0, l1, l2, l3, l4, l5] (.int 0 :: st) h := zx_go rfl rfl
theorem zs_210_27 (hs : znw l5 = true) : zrun zP sv C 210 27 [l0, l1, l2, l3, l4, l5] (.int x :: st) h = zrun zP sv C 210 29 [l0, l1, l2, l3, l4, .val (.int x)] st h := zx_st hs rfl rfl rfl rfl rfl rfl
theorem zs_210_29 : zrun zP sv C 210 29 [l0, l1, l2, l3, l4, .val (.int x)] st h = zrun zP sv C 210 31 [l0, l1, l2, l3, l4, .val (.int x)] (.int x :: st) h := zx_go rfl rfl
theorem zs_210_31 : zrun zP sv C 210 31 [l0, l1, l2, .val (.int x), l4, l5] st h = zrun zP sv C 210 32 [l0, l1, l2, .val (.int x), l4, l5] (.int x :: st) h := zx_go rfl rfl
theorem zs_210_32 : zrun zP sv C 210 32 [l0, l1, l2, l3, l4, l5] (.int y :: .int x :: st) h = if x < y then zrun zP sv C 210 35 [l0, l1, l2, l3, l4, l5] st h else zrun zP sv C 210 95 [l0, l1, l2, l3, l4, l5] st h := (zx_ic rfl rfl).trans zc3_if
theorem zs_210_35 : zrun zP sv C 210 35 [l0, l1, l2, l3, .val (.int x), l5] st h = zrun zP sv C 210 37 [l0, l1, l2, l3, .val (.int x), l5] (.int x :: st) h := zx_go rfl rfl
theorem zs_210_37 : zrun zP sv C 210 37 [l0, l1, l2, l3, l4, l5] (.int x :: st) h = if x = 0 then zrun zP sv C 210 95 [l0, l1, l2, l3, l4, l5] st h else zrun zP sv C 210 40 [l0, l1, l2, l3, l4, l5] st h := (zx_if rfl rfl).trans zc0_if
theorem zs_210_40 : zrun zP sv C 210 40 [.val (.ref a), l1, l2, l3, l4, l5] st h = zrun zP sv C 210 41 [.val (.ref a), l1, l2, l3, l4, l5] (.ref a :: st) h := zx_go rfl rfl
theorem zs_210_41 : zrun zP sv C 210 41 [l0, l1, l2, l3, l4, l5] (.ref a :: st) h = zfld (h.1 a) 13 6 (fun v => zrun zP sv C 210 44 [l0, l1, l2, l3, l4, l5] (v :: st) h) := zx_getf rfl rfl
theorem zs_210_44 : zrun zP sv C 210 44 [l0, .val (.int x), l2, l3, l4, l5] st h = zrun zP sv C 210 45 [l0, .val (.int x), l2, l3, l4, l5] (.int x :: st) h := zx_go rfl rfl
theorem zs_210_45 : zrun zP sv C 210 45 [l0, l1, l2, l3, l4, .val (.int x)] st h = zrun zP sv C 210 47 [l0, l1, l2, l3, l4, .val (.int x)] (.int x :: st) h := zx_go rfl rfl
theorem zs_210_47 : zrun zP sv C 210 47 [l0, l1, l2, l3, l4, l5] (.int y :: .int x :: st) h = zrun zP sv C 210 48 [l0, l1, l2, l3, l4, l5] (.int (x + y) :: st) h := zx_go rfl rfl
theorem zs_210_48 : zrun zP sv C 210 48 [l0, l1, l2, l3, l4, l5] (.int x :: .ref a :: st) h = zael (h.1 a) 21 x (fun v => zrun zP sv C 210 49 [l0, l1, l2, l3, l4, l5] (v :: st) h) := zx_ald rfl rfl
theorem zs_210_49 : zrun zP sv C 210 49 [.val (.ref a), l1, l2, l3, l4, l5] st h = zrun zP sv C 210 50 [.val (.ref a), l1, l2, l3, l4, l5] (.ref a :: st) h := zx_go rfl rfl
theorem zs_210_50 : zrun zP sv C 210 50 [l0, l1, l2, l3, l4, l5] (.ref a :: st) h = zfld (h.1 a) 13 6 (fun v => zrun zP sv C 210 53 [l0, l1, l2, l3, l4, l5] (v :: st) h) := zx_getf rfl rfl
theorem zs_210_53 : zrun zP sv C 210 53 [l0, l1, .val (.int x), l3, l4, l5] st h = zrun zP sv C 210 54 [l0, l1, .val (.int x), l3, l4, l5] (.int x :: st) h := zx_go rfl rfl
theorem zs_210_54 : zrun zP sv C 210 54 [l0, l1, l2, l3, l4, .val (.int x)] st h = zrun zP sv C 210 56 [l0, l1, l2, l3, l4, .val (.int x)] (.int x :: st) h := zx_go rfl rfl
theorem zs_210_56 : zrun zP sv C 210 56 [l0, l1, l2, l3, l4, l5] (.int y :: .int x :: st) h = zrun zP sv C 210 57 [l0, l1, l2, l3, l4, l5] (.int (x + y) :: st) h := zx_go rfl rfl
theorem zs_210_57 : zrun zP sv C 210 57 [l0, l1, l2, l3, l4, l5] (.int x :: .ref a :: st) h = zael (h.1 a) 21 x (fun v => zrun zP sv C 210 58 [l0, l1, l2, l3, l4, l5] (v :: st) h) := zx_ald rfl rfl
theorem zs_210_58 : zrun zP sv C 210 58 [l0, l1, l2, l3, l4, l5] (.int y :: .int x :: st) h = if x = y then zrun zP sv C 210 61 [l0, l1, l2, l3, l4, l5] st h else zrun zP sv C 210 86 [l0, l1, l2, l3, l4, l5] st h := (zx_ic rfl rfl).trans zc1_if
theorem zs_210_61 : zrun zP sv C 210 61 [.val (.ref a), l1, l2, l3, l4, l5] st h = zrun zP sv C 210 62 [.val (.ref a), l1, l2, l3, l4, l5] (.ref a :: st) h := zx_go rfl rfl
theorem zs_210_62 : zrun zP sv C 210 62 [l0, l1, l2, l3, l4, l5] (.ref a :: st) h = zfld (h.1 a) 13 7 (fun v => zrun zP sv C 210 65 [l0, l1, l2, l3, l4, l5] (v :: st) h) := zx_getf rfl rfl
theorem zs_210_65 : zrun zP sv C 210 65 [l0, .val (.int x), l2, l3, l4, l5] st h = zrun zP sv C 210 66 [l0, .val (.int x), l2, l3, l4, l5] (.int x :: st) h := zx_go rfl rfl
theorem zs_210_66 : zrun zP sv C 210 66 [l0, l1, l2, l3, l4, .val (.int x)] st h = zrun zP sv C 210 68 [l0, l1, l2, l3, l4, .val (.int x)] (.int x :: st) h := zx_go rfl rfl
theorem zs_210_68 : zrun zP sv C 210 68 [l0, l1, l2, l3, l4, l5] (.int y :: .int x :: st) h = zrun zP sv C 210 69 [l0, l1, l2, l3, l4, l5] (.int (x + y) :: st) h := zx_go rfl rfl
theorem zs_210_69 : zrun zP sv C 210 69 [l0, l1, l2, l3, l4, l5] (.int x :: .ref a :: st) h = zael (h.1 a) 20 x (fun v => zrun zP sv C 210 70 [l0, l1, l2, l3, l4, l5] (v :: st) h) := zx_ald rfl rfl
theorem zs_210_70 : zrun zP sv C 210 70 [.val (.ref a), l1, l2, l3, l4, l5] st h = zrun zP sv C 210 71 [.val (.ref a), l1, l2, l3, l4, l5] (.ref a :: st) h := zx_go rfl rfl
theorem zs_210_71 : zrun zP sv C 210 71 [l0, l1, l2, l3, l4, l5] (.ref a :: st) h = zfld (h.1 a) 13 7 (fun v => zrun zP sv C 210 74 [l0, l1, l2, l3, l4, l5] (v :: st) h) := zx_getf rfl rfl
theorem zs_210_74 : zrun zP sv C 210 74 [l0, l1, .val (.int x), l3, l4, l5] st h = zrun zP sv C 210 75 [l0, l1, .val (.int x), l3, l4, l5] (.int x :: st) h := zx_go rfl rfl
theorem zs_210_75 : zrun zP sv C 210 75 [l0, l1, l2, l3, l4, .val (.int x)] st h = zrun zP sv C 210 77 [l0, l1, l2, l3, l4, .val (.int x)] (.int x :: st) h := zx_go rfl rfl
theorem zs_210_77 : zrun zP sv C 210 77 [l0, l1, l2, l3, l4, l5] (.int y :: .int x :: st) h = zrun zP sv C 210 78 [l0, l1, l2, l3, l4, l5] (.int (x + y) :: st) h := zx_go rfl rfl
theorem zs_210_78 : zrun zP sv C 210 78 [l0, l1, l2, l3, l4, l5] (.int x :: .ref a :: st) h = zael (h.1 a) 20 x (fun v => zrun zP sv C 210 79 [l0, l1, l2, l3, l4, l5] (v :: st) h) := zx_ald rfl rfl
theorem zs_210_79 : zrun zP sv C 210 79 [l0, l1, l2, l3, l4, l5] (.int y :: .int x :: st) h = if x = y then zrun zP sv C 210 82 [l0, l1, l2, l3, l4, l5] st h else zrun zP sv C 210 86 [l0, l1, l2, l3, l4, l5] st h := (zx_ic rfl rfl).trans zc1_if
theorem zs_210_82 : zrun zP sv C 210 82 [l0, l1, l2, l3, l4, l5] st h = zrun zP sv C 210 83 [l0, l1, l2, l3, l4, l5] (.int (nI 1) :: st) h := zx_go rfl rfl
theorem zs_210_83 : zrun zP sv C 210 83 [l0, l1, l2, l3, l4, l5] st h = zrun zP sv C 210 87 [l0, l1, l2, l3, l4, l5] st h := zx_go rfl rfl
theorem zs_210_86 : zrun zP sv C 210 86 [l0, l1, l2, l3, l4, l5] st h = zrun zP sv C 210 87 [l0, l1, l2, l3, l4, l5] (.int 0 :: st) h := zx_go rfl rfl
theorem zs_210_87 (hs : znw l4 = true) : zrun zP sv C 210 87 [l0, l1, l2, l3, l4, l5] (.int x :: st) h = zrun zP sv C 210 89 [l0, l1, l2, l3, .val (.int x), l5] st h := zx_st hs rfl rfl rfl rfl rfl rfl
theorem zs_210_89 : zrun zP sv C 210 89 [l0, l1, l2, l3, l4, .val (.int x)] st h = zrun zP sv C 210 92 [l0, l1, l2, l3, l4, .val (.int (x + (nI 1)))] st h := zx_ii rfl rfl rfl rfl rfl
theorem zs_210_92 : zrun zP sv C 210 92 [l0, l1, l2, l3, l4, l5] st h = zrun zP sv C 210 29 [l0, l1, l2, l3, l4, l5] st h := zx_go rfl rfl
theorem zs_210_95 : zrun zP sv C 210 95 [l0, l1, l2, l3, .val (.int x), l5] st h = zrun zP sv C 210 97 [l0, l1, l2, l3, .val (.int x), l5] (.int x :: st) h := zx_go rfl rfl
theorem zs_210_97 : zrun zP sv C 210 97 [l0, l1, l2, l3, l4, l5] [.int x] h = zgd (zty 5 (.int x)) (some (.inl (some (.int x)), h)) := zx_rt rfl
theorem zs_211_0 : zrun zP sv C 211 0 [.val (.int x), l1, l2] st h = zrun zP sv C 211 1 [.val (.int x), l1, l2] (.int x :: st) h := zx_go rfl rfl
theorem zs_211_1 : zrun zP sv C 211 1 [l0, l1, l2] st h = zrun zP sv C 211 3 [l0, l1, l2] (.int (nI 43) :: st) h := zx_go rfl rfl
theorem zs_211_3 : zrun zP sv C 211 3 [l0, l1, l2] (.int y :: .int x :: st) h = if x = y then zrun zP sv C 211 6 [l0, l1, l2] st h else zrun zP sv C 211 12 [l0, l1, l2] st h := (zx_ic rfl rfl).trans zc1_if
theorem zs_211_6 : zrun zP sv C 211 6 [l0, .val (.int x), l2] st h = zrun zP sv C 211 7 [l0, .val (.int x), l2] (.int x :: st) h := zx_go rfl rfl
theorem zs_211_7 : zrun zP sv C 211 7 [l0, l1, .val (.int x)] st h = zrun zP sv C 211 8 [l0, l1, .val (.int x)] (.int x :: st) h := zx_go rfl rfl
theorem zs_211_8 : zrun zP sv C 211 8 [l0, l1, l2] (.int y :: .int x :: st) h = zrun zP sv C 211 9 [l0, l1, l2] (.int (x + y) :: st) h := zx_go rfl rfl
theorem zs_211_9 : zrun zP sv C 211 9 [l0, l1, l2] st h = zrun zP sv C 211 27 [l0, l1, l2] st h := zx_go rfl rfl
theorem zs_211_12 : zrun zP sv C 211 12 [.val (.int x), l1, l2] st h = zrun zP sv C 211 13 [.val (.int x), l1, l2] (.int x :: st) h := zx_go rfl rfl
theorem zs_211_13 : zrun zP sv C 211 13 [l0, l1, l2] st h = zrun zP sv C 211 15 [l0, l1, l2] (.int (nI 45) :: st) h := zx_go rfl rfl
theorem zs_211_15 : zrun zP sv C 211 15 [l0, l1, l2] (.int y :: .int x :: st) h = if x = y then zrun zP sv C 211 18 [l0, l1, l2] st h else zrun zP sv C 211 24 [l0, l1, l2] st h := (zx_ic rfl rfl).trans zc1_if
theorem zs_211_18 : zrun zP sv C 211 18 [l0, .val (.int x), l2] st h = zrun zP sv C 211 19 [l0, .val (.int x), l2] (.int x :: st) h := zx_go rfl rfl
theorem zs_211_19 : zrun zP sv C 211 19 [l0, l1, .val (.int x)] st h = zrun zP sv C 211 20 [l0, l1, .val (.int x)] (.int x :: st) h := zx_go rfl rfl
theorem zs_211_20 : zrun zP sv C 211 20 [l0, l1, l2] (.int y :: .int x :: st) h = zrun zP sv C 211 21 [l0, l1, l2] (.int (x - y) :: st) h := zx_go rfl rfl
theorem zs_211_21 : zrun zP sv C 211 21 [l0, l1, l2] st h = zrun zP sv C 211 27 [l0, l1, l2] st h := zx_go rfl rfl
theorem zs_211_24 : zrun zP sv C 211 24 [l0, .val (.int x), l2] st h = zrun zP sv C 211 25 [l0, .val (.int x), l2] (.int x :: st) h := zx_go rfl rfl
theorem zs_211_25 : zrun zP sv C 211 25 [l0, l1, .val (.int x)] st h = zrun zP sv C 211 26 [l0, l1, .val (.int x)] (.int x :: st) h := zx_go rfl rfl
theorem zs_211_26 : zrun zP sv C 211 26 [l0, l1, l2] (.int y :: .int x :: st) h = zrun zP sv C 211 27 [l0, l1, l2] (.int (x * y) :: st) h := zx_go rfl rfl
theorem zs_211_27 : zrun zP sv C 211 27 [l0, l1, l2] [.int x] h = some (.inl (some (.int x)), h) := zx_end rfl rfl
theorem zs_212_0 : zrun zP sv C 212 0 [.val (.ref a), l1, l2, l3, l4] st h = zrun zP sv C 212 1 [.val (.ref a), l1, l2, l3, l4] (.ref a :: st) h := zx_go rfl rfl
theorem zs_212_1 : zrun zP sv C 212 1 [l0, l1, l2, l3, l4] (.ref a :: st) h = zfld (h.1 a) 13 6 (fun v => zrun zP sv C 212 4 [l0, l1, l2, l3, l4] (v :: st) h) := zx_getf rfl rfl
theorem zs_212_4 : zrun zP sv C 212 4 [l0, .val (.int x), l2, l3, l4] st h = zrun zP sv C 212 5 [l0, .val (.int x), l2, l3, l4] (.int x :: st) h := zx_go rfl rfl
theorem zs_212_5 : zrun zP sv C 212 5 [l0, l1, l2, l3, l4] (.int x :: .ref a :: st) h = zael (h.1 a) 21 x (fun v => zrun zP sv C 212 6 [l0, l1, l2, l3, l4] (v :: st) h) := zx_ald rfl rfl
theorem zs_212_6 : zrun zP sv C 212 6 [l0, l1, l2, l3, l4] (.int x :: st) h = zrun zP sv C 212 (zswp (zP.2.2.2.1 1) 108 x) [l0, l1, l2, l3, l4] st h := zx_sw rfl
theorem zs_212_40 : zrun zP sv C 212 40 [l0, l1, .val (.int x), l3, l4] st h = zrun zP sv C 212 41 [l0, l1, .val (.int x), l3, l4] (.int x :: st) h := zx_go rfl rfl
theorem zs_212_41 : zrun zP sv C 212 41 [l0, l1, l2, l3, l4] (.int x :: st) h = if x = 0 then zrun zP sv C 212 44 [l0, l1, l2, l3, l4] st h else zrun zP sv C 212 53 [l0, l1, l2, l3, l4] st h := (zx_if rfl rfl).trans zc1_if
theorem zs_212_44 : zrun zP sv C 212 44 [.val (.ref a), l1, l2, l3, l4] st h = zrun zP sv C 212 45 [.val (.ref a), l1, l2, l3, l4] (.ref a :: st) h := zx_go rfl rfl
theorem zs_212_45 : zrun zP sv C 212 45 [l0, l1, l2, l3, l4] (.ref a :: st) h = zfld (h.1 a) 13 7 (fun v => zrun zP sv C 212 48 [l0, l1, l2, l3, l4] (v :: st) h) := zx_getf rfl rfl
theorem zs_212_48 : zrun zP sv C 212 48 [l0, .val (.int x), l2, l3, l4] st h = zrun zP sv C 212 49 [l0, .val (.int x), l2, l3, l4] (.int x :: st) h := zx_go rfl rfl
theorem zs_212_49 : zrun zP sv C 212 49 [l0, l1, l2, l3, l4] (.int x :: .ref a :: st) h = zael (h.1 a) 20 x (fun v => zrun zP sv C 212 50 [l0, l1, l2, l3, l4] (v :: st) h) := zx_ald rfl rfl
theorem zs_212_50 : zrun zP sv C 212 50 [l0, l1, l2, l3, l4] st h = zrun zP sv C 212 63 [l0, l1, l2, l3, l4] st h := zx_go rfl rfl
theorem zs_212_53 : zrun zP sv C 212 53 [l0, l1, .val (.int x), l3, l4] st h = zrun zP sv C 212 54 [l0, l1, .val (.int x), l3, l4] (.int x :: st) h := zx_go rfl rfl
theorem zs_212_54 : zrun zP sv C 212 54 [l0, l1, l2, l3, l4] st h = zrun zP sv C 212 55 [l0, l1, l2, l3, l4] (.int (nI 2) :: st) h := zx_go rfl rfl
theorem zs_212_55 : zrun zP sv C 212 55 [l0, l1, l2, l3, l4] (.int y :: .int x :: st) h = if x = y then zrun zP sv C 212 58 [l0, l1, l2, l3, l4] st h else zrun zP sv C 212 62 [l0, l1, l2, l3, l4] st h := (zx_ic rfl rfl).trans zc1_if
theorem zs_212_58 : zrun zP sv C 212 58 [l0, l1, l2, l3, l4] st h = zrun zP sv C 212 59 [l0, l1, l2, l3, l4] (.int 0 :: st) h := zx_go rfl rfl
theorem zs_212_59 : zrun zP sv C 212 59 [l0, l1, l2, l3, l4] st h = zrun zP sv C 212 63 [l0, l1, l2, l3, l4] st h := zx_go rfl rfl
theorem zs_212_62 : zrun zP sv C 212 62 [l0, l1, l2, l3, l4] st h = zrun zP sv C 212 63 [l0, l1, l2, l3, l4] (.int (nI 1) :: st) h := zx_go rfl rfl
theorem zs_212_63 : zrun zP sv C 212 63 [l0, l1, l2, l3, l4] [.int x] h = some (.inl (some (.int x)), h) := zx_end rfl rfl
theorem zs_212_64 : zrun zP sv C 212 64 [l0, l1, .val (.int x), l3, l4] st h = zrun zP sv C 212 65 [l0, l1, .val (.int x), l3, l4] (.int x :: st) h := zx_go rfl rfl
theorem zs_212_65 : zrun zP sv C 212 65 [l0, l1, l2, l3, l4] (.int x :: st) h = if x = 0 then zrun zP sv C 212 68 [l0, l1, l2, l3, l4] st h else zrun zP sv C 212 84 [l0, l1, l2, l3, l4] st h := (zx_if rfl rfl).trans zc1_if
theorem zs_212_68 : zrun zP sv C 212 68 [.val (.ref a), l1, l2, l3, l4] st h = zrun zP sv C 212 69 [.val (.ref a), l1, l2, l3, l4] (.ref a :: st) h := zx_go rfl rfl
theorem zs_212_69 : zrun zP sv C 212 69 [l0, l1, l2, l3, l4] (.ref a :: st) h = zfld (h.1 a) 13 0 (fun v => zrun zP sv C 212 72 [l0, l1, l2, l3, l4] (v :: st) h) := zx_getf rfl rfl
theorem zs_212_72 : zrun zP sv C 212 72 [l0, l1, l2, l3, l4] st h = zrun zP sv C 212 73 [l0, l1, l2, l3, l4] (.int (nI 3) :: st) h := zx_go rfl rfl
theorem zs_212_73 : zrun zP sv C 212 73 [.val (.ref a), l1, l2, l3, l4] st h = zrun zP sv C 212 74 [.val (.ref a), l1, l2, l3, l4] (.ref a :: st) h := zx_go rfl rfl
theorem zs_212_74 : zrun zP sv C 212 74 [l0, l1, l2, l3, l4] (.ref a :: st) h = zfld (h.1 a) 13 7 (fun v => zrun zP sv C 212 77 [l0, l1, l2, l3, l4] (v :: st) h) := zx_getf rfl rfl
theorem zs_212_77 : zrun zP sv C 212 77 [l0, .val (.int x), l2, l3, l4] st h = zrun zP sv C 212 78 [l0, .val (.int x), l2, l3, l4] (.int x :: st) h := zx_go rfl rfl
theorem zs_212_78 : zrun zP sv C 212 78 [l0, l1, l2, l3, l4] (.int x :: .ref a :: st) h = zael (h.1 a) 20 x (fun v => zrun zP sv C 212 79 [l0, l1, l2, l3, l4] (v :: st) h) := zx_ald rfl rfl
theorem zs_212_79 : zrun zP sv C 212 79 [l0, l1, l2, l3, l4] (.int y :: .int x :: st) h = zrun zP sv C 212 80 [l0, l1, l2, l3, l4] (.int (x + y) :: st) h := zx_go rfl rfl
theorem zs_212_80 : zrun zP sv C 212 80 [l0, l1, l2, l3, l4] (.int x :: .ref a :: st) h = zael (h.1 a) 20 x (fun v => zrun zP sv C 212 81 [l0, l1, l2, l3, l4] (v :: st) h) := zx_ald rfl rfl
theorem zs_212_81 : zrun zP sv C 212 81 [l0, l1, l2, l3, l4] st h = zrun zP sv C 212 85 [l0, l1, l2, l3, l4] st h := zx_go rfl rfl
theorem zs_212_84 : zrun zP sv C 212 84 [l0, l1, l2, l3, l4] st h = zrun zP sv C 212 85 [l0, l1, l2, l3, l4] (.int (nI 1) :: st) h := zx_go rfl rfl
theorem zs_212_85 : zrun zP sv C 212 85 [l0, l1, l2, l3, l4] [.int x] h = some (.inl (some (.int x)), h) := zx_end rfl rfl
theorem zs_212_86 : zrun zP sv C 212 86 [l0, l1, .val (.int x), l3, l4] st h = zrun zP sv C 212 87 [l0, l1, .val (.int x), l3, l4] (.int x :: st) h := zx_go rfl rfl
theorem zs_212_87 : zrun zP sv C 212 87 [l0, l1, l2, l3, l4] (.int x :: st) h = if x = 0 then zrun zP sv C 212 90 [l0, l1, l2, l3, l4] st h else zrun zP sv C 212 95 [l0, l1, l2, l3, l4] st h := (zx_if rfl rfl).trans zc1_if
theorem zs_212_90 : zrun zP sv C 212 90 [l0, l1, l2, .val (.int x), l4] st h = zrun zP sv C 212 91 [l0, l1, l2, .val (.int x), l4] (.int x :: st) h := zx_go rfl rfl
theorem zs_212_91 : zrun zP sv C 212 91 [l0, l1, l2, l3, l4] (.int x :: st) h = zrun zP sv C 212 92 [l0, l1, l2, l3, l4] (.int (-x) :: st) h := zx_go rfl rfl
theorem zs_212_92 : zrun zP sv C 212 92 [l0, l1, l2, l3, l4] st h = zrun zP sv C 212 107 [l0, l1, l2, l3, l4] st h := zx_go rfl rfl
theorem zs_212_95 : zrun zP sv C 212 95 [l0, l1, .val (.int x), l3, l4] st h = zrun zP sv C 212 96 [l0, l1, .val (.int x), l3, l4] (.int x :: st) h := zx_go rfl rfl
theorem zs_212_96 : zrun zP sv C 212 96 [l0, l1, l2, l3, l4] st h = zrun zP sv C 212 97 [l0, l1, l2, l3, l4] (.int (nI 1) :: st) h := zx_go rfl rfl
theorem zs_212_97 : zrun zP sv C 212 97 [l0, l1, l2, l3, l4] (.int y :: .int x :: st) h = if x = y then zrun zP sv C 212 100 [l0, l1, l2, l3, l4] st h else zrun zP sv C 212 106 [l0, l1, l2, l3, l4] st h := (zx_ic rfl rfl).trans zc1_if
theorem zs_212_100 : zrun zP sv C 212 100 [l0, l1, l2, .val (.int x), l4] st h = zrun zP sv C 212 101 [l0, l1, l2, .val (.int x), l4] (.int x :: st) h := zx_go rfl rfl
theorem zs_212_101 : zrun zP sv C 212 101 [l0, l1, l2, l3, l4] st h = zrun zP sv C 212 102 [l0, l1, l2, l3, l4] (.int (nI 1) :: st) h := zx_go rfl rfl
theorem zs_212_102 : zrun zP sv C 212 102 [l0, l1, l2, l3, l4] (.int y :: .int x :: st) h = zrun zP sv C 212 103 [l0, l1, l2, l3, l4] (.int (x + y) :: st) h := zx_go rfl rfl
theorem zs_212_103 : zrun zP sv C 212 103 [l0, l1, l2, l3, l4] st h = zrun zP sv C 212 107 [l0, l1, l2, l3, l4] st h := zx_go rfl rfl
theorem zs_212_106 : zrun zP sv C 212 106 [l0, l1, l2, .val (.int x), l4] st h = zrun zP sv C 212 107 [l0, l1, l2, .val (.int x), l4] (.int x :: st) h := zx_go rfl rfl
theorem zs_212_107 : zrun zP sv C 212 107 [l0, l1, l2, l3, l4] [.int x] h = some (.inl (some (.int x)), h) := zx_end rfl rfl
theorem zs_212_108 : zrun zP sv C 212 108 [l0, l1, .val (.int x), l3, l4] st h = zrun zP sv C 212 109 [l0, l1, .val (.int x), l3, l4] (.int x :: st) h := zx_go rfl rfl
theorem zs_212_109 : zrun zP sv C 212 109 [l0, l1, l2, l3, l4] (.int x :: st) h = if x = 0 then zrun zP sv C 212 112 [l0, l1, l2, l3, l4] st h else zrun zP sv C 212 125 [l0, l1, l2, l3, l4] st h := (zx_if rfl rfl).trans zc1_if
theorem zs_212_112 : zrun zP sv C 212 112 [.val (.ref a), l1, l2, l3, l4] st h = zrun zP sv C 212 113 [.val (.ref a), l1, l2, l3, l4] (.ref a :: st) h := zx_go rfl rfl
theorem zs_212_113 : zrun zP sv C 212 113 [l0, l1, l2, l3, l4] (.ref a :: st) h = zfld (h.1 a) 13 6 (fun v => zrun zP sv C 212 116 [l0, l1, l2, l3, l4] (v :: st) h) := zx_getf rfl rfl
theorem zs_212_116 : zrun zP sv C 212 116 [l0, .val (.int x), l2, l3, l4] st h = zrun zP sv C 212 117 [l0, .val (.int x), l2, l3, l4] (.int x :: st) h := zx_go rfl rfl
theorem zs_212_117 : zrun zP sv C 212 117 [l0, l1, l2, l3, l4] (.int x :: .ref a :: st) h = zael (h.1 a) 21 x (fun v => zrun zP sv C 212 118 [l0, l1, l2, l3, l4] (v :: st) h) := zx_ald rfl rfl
theorem zs_212_118 : zrun zP sv C 212 118 [l0, l1, l2, .val (.int x), l4] st h = zrun zP sv C 212 119 [l0, l1, l2, .val (.int x), l4] (.int x :: st) h := zx_go rfl rfl
theorem zs_212_119 : zrun zP sv C 212 119 [l0, l1, l2, l3, .val (.int x)] st h = zrun zP sv C 212 121 [l0, l1, l2, l3, .val (.int x)] (.int x :: st) h := zx_go rfl rfl
theorem zs_212_121 : zrun zP sv C 212 121 [l0, l1, l2, l3, l4] [v2, v1, v0] h = zbk (C 211 [v0, v1, v2] h) (fun v h' => zrun zP sv C 212 124 [l0, l1, l2, l3, l4] (v.toList ++ []) h') (fun E h' => some (.inr E, h')) := zx_cs rfl rfl rfl rfl ⟨Nat.le_of_ble_eq_true rfl, rfl⟩ (fun _ _ => rfl)
theorem zs_212_124 : zrun zP sv C 212 124 [l0, l1, l2, l3, l4] [.int x] h = some (.inl (some (.int x)), h) := zx_end rfl rfl
theorem zs_212_125 : zrun zP sv C 212 125 [l0, l1, .val (.int x), l3, l4] st h = zrun zP sv C 212 126 [l0, l1, .val (.int x), l3, l4] (.int x :: st) h := zx_go rfl rfl
theorem zs_212_126 : zrun zP sv C 212 126 [l0, l1, l2, l3, l4] st h = zrun zP sv C 212 127 [l0, l1, l2, l3, l4] (.int (nI 1) :: st) h := zx_go rfl rfl
theorem zs_212_127 : zrun zP sv C 212 127 [l0, l1, l2, l3, l4] (.int y :: .int x :: st) h = if x = y then zrun zP sv C 212 130 [l0, l1, l2, l3, l4] st h else zrun zP sv C 212 139 [l0, l1, l2, l3, l4] st h := (zx_ic rfl rfl).trans zc1_if
theorem zs_212_130 : zrun zP sv C 212 130 [l0, l1, l2, .val (.int x), l4] st h = zrun zP sv C 212 131 [l0, l1, l2, .val (.int x), l4] (.int x :: st) h := zx_go rfl rfl
theorem zs_212_131 : zrun zP sv C 212 131 [l0, l1, l2, l3, .val (.int x)] st h = zrun zP sv C 212 133 [l0, l1, l2, l3, .val (.int x)] (.int x :: st) h := zx_go rfl rfl
theorem zs_212_133 : zrun zP sv C 212 133 [l0, l1, l2, l3, l4] [.int y, .int x] h = zrun zP sv C 212 136 [l0, l1, l2, l3, l4] [.int (if x < y then y else x)] h := zx_go rfl rfl
theorem zs_212_136 : zrun zP sv C 212 136 [l0, l1, l2, l3, l4] st h = zrun zP sv C 212 137 [l0, l1, l2, l3, l4] (.int (nI 1) :: st) h := zx_go rfl rfl
theorem zs_212_137 : zrun zP sv C 212 137 [l0, l1, l2, l3, l4] (.int y :: .int x :: st) h = zrun zP sv C 212 138 [l0, l1, l2, l3, l4] (.int (x + y) :: st) h := zx_go rfl rfl
theorem zs_212_138 : zrun zP sv C 212 138 [l0, l1, l2, l3, l4] [.int x] h = some (.inl (some (.int x)), h) := zx_end rfl rfl
theorem zs_212_139 : zrun zP sv C 212 139 [l0, l1, .val (.int x), l3, l4] st h = zrun zP sv C 212 140 [l0, l1, .val (.int x), l3, l4] (.int x :: st) h := zx_go rfl rfl
theorem zs_212_140 : zrun zP sv C 212 140 [l0, l1, l2, l3, l4] st h = zrun zP sv C 212 141 [l0, l1, l2, l3, l4] (.int (nI 2) :: st) h := zx_go rfl rfl
theorem zs_212_141 : zrun zP sv C 212 141 [l0, l1, l2, l3, l4] (.int y :: .int x :: st) h = if x = y then zrun zP sv C 212 144 [l0, l1, l2, l3, l4] st h else zrun zP sv C 212 169 [l0, l1, l2, l3, l4] st h := (zx_ic rfl rfl).trans zc1_if
theorem zs_212_144 : zrun zP sv C 212 144 [.val (.ref a), l1, l2, l3, l4] st h = zrun zP sv C 212 145 [.val (.ref a), l1, l2, l3, l4] (.ref a :: st) h := zx_go rfl rfl
theorem zs_212_145 : zrun zP sv C 212 145 [l0, l1, l2, l3, l4] (.ref a :: st) h = zfld (h.1 a) 13 6 (fun v => zrun zP sv C 212 148 [l0, l1, l2, l3, l4] (v :: st) h) := zx_getf rfl rfl
theorem zs_212_148 : zrun zP sv C 212 148 [l0, .val (.int x), l2, l3, l4] st h = zrun zP sv C 212 149 [l0, .val (.int x), l2, l3, l4] (.int x :: st) h := zx_go rfl rfl
theorem zs_212_149 : zrun zP sv C 212 149 [l0, l1, l2, l3, l4] (.int x :: .ref a :: st) h = zael (h.1 a) 21 x (fun v => zrun zP sv C 212 150 [l0, l1, l2, l3, l4] (v :: st) h) := zx_ald rfl rfl
theorem zs_212_150 : zrun zP sv C 212 150 [l0, l1, l2, l3, l4] st h = zrun zP sv C 212 152 [l0, l1, l2, l3, l4] (.int (nI 42) :: st) h := zx_go rfl rfl
theorem zs_212_152 : zrun zP sv C 212 152 [l0, l1, l2, l3, l4] (.int y :: .int x :: st) h = if x = y then zrun zP sv C 212 155 [l0, l1, l2, l3, l4] st h else zrun zP sv C 212 162 [l0, l1, l2, l3, l4] st h := (zx_ic rfl rfl).trans zc1_if
theorem zs_212_155 : zrun zP sv C 212 155 [l0, l1, l2, .val (.int x), l4] st h = zrun zP sv C 212 156 [l0, l1, l2, .val (.int x), l4] (.int x :: st) h := zx_go rfl rfl
theorem zs_212_156 : zrun zP sv C 212 156 [l0, l1, l2, l3, .val (.int x)] st h = zrun zP sv C 212 158 [l0, l1, l2, l3, .val (.int x)] (.int x :: st) h := zx_go rfl rfl
theorem zs_212_158 : zrun zP sv C 212 158 [l0, l1, l2, l3, l4] (.int y :: .int x :: st) h = zrun zP sv C 212 159 [l0, l1, l2, l3, l4] (.int (x + y) :: st) h := zx_go rfl rfl
theorem zs_212_159 : zrun zP sv C 212 159 [l0, l1, l2, l3, l4] st h = zrun zP sv C 212 168 [l0, l1, l2, l3, l4] st h := zx_go rfl rfl
theorem zs_212_162 : zrun zP sv C 212 162 [l0, l1, l2, .val (.int x), l4] st h = zrun zP sv C 212 163 [l0, l1, l2, .val (.int x), l4] (.int x :: st) h := zx_go rfl rfl
theorem zs_212_163 : zrun zP sv C 212 163 [l0, l1, l2, l3, .val (.int x)] st h = zrun zP sv C 212 165 [l0, l1, l2, l3, .val (.int x)] (.int x :: st) h := zx_go rfl rfl
theorem zs_212_165 : zrun zP sv C 212 165 [l0, l1, l2, l3, l4] [.int y, .int x] h = zrun zP sv C 212 168 [l0, l1, l2, l3, l4] [.int (if x < y then y else x)] h := zx_go rfl rfl
theorem zs_212_168 : zrun zP sv C 212 168 [l0, l1, l2, l3, l4] [.int x] h = some (.inl (some (.int x)), h) := zx_end rfl rfl
theorem zs_212_169 : zrun zP sv C 212 169 [l0, l1, l2, .val (.int x), l4] st h = zrun zP sv C 212 170 [l0, l1, l2, .val (.int x), l4] (.int x :: st) h := zx_go rfl rfl
theorem zs_212_170 : zrun zP sv C 212 170 [l0, l1, l2, l3, .val (.int x)] st h = zrun zP sv C 212 172 [l0, l1, l2, l3, .val (.int x)] (.int x :: st) h := zx_go rfl rfl
theorem zs_212_172 : zrun zP sv C 212 172 [l0, l1, l2, l3, l4] (.int y :: .int x :: st) h = if x = y then zrun zP sv C 212 175 [l0, l1, l2, l3, l4] st h else zrun zP sv C 212 181 [l0, l1, l2, l3, l4] st h := (zx_ic rfl rfl).trans zc1_if
theorem zs_212_175 : zrun zP sv C 212 175 [l0, l1, l2, .val (.int x), l4] st h = zrun zP sv C 212 176 [l0, l1, l2, .val (.int x), l4] (.int x :: st) h := zx_go rfl rfl
theorem zs_212_176 : zrun zP sv C 212 176 [l0, l1, l2, l3, l4] st h = zrun zP sv C 212 177 [l0, l1, l2, l3, l4] (.int (nI 1) :: st) h := zx_go rfl rfl
theorem zs_212_177 : zrun zP sv C 212 177 [l0, l1, l2, l3, l4] (.int y :: .int x :: st) h = zrun zP sv C 212 178 [l0, l1, l2, l3, l4] (.int (x + y) :: st) h := zx_go rfl rfl
theorem zs_212_178 : zrun zP sv C 212 178 [l0, l1, l2, l3, l4] st h = zrun zP sv C 212 187 [l0, l1, l2, l3, l4] st h := zx_go rfl rfl
theorem zs_212_181 : zrun zP sv C 212 181 [l0, l1, l2, .val (.int x), l4] st h = zrun zP sv C 212 182 [l0, l1, l2, .val (.int x), l4] (.int x :: st) h := zx_go rfl rfl
theorem zs_212_182 : zrun zP sv C 212 182 [l0, l1, l2, l3, .val (.int x)] st h = zrun zP sv C 212 184 [l0, l1, l2, l3, .val (.int x)] (.int x :: st) h := zx_go rfl rfl
theorem zs_212_184 : zrun zP sv C 212 184 [l0, l1, l2, l3, l4] [.int y, .int x] h = zrun zP sv C 212 187 [l0, l1, l2, l3, l4] [.int (if x < y then y else x)] h := zx_go rfl rfl
theorem zs_212_187 : zrun zP sv C 212 187 [l0, l1, l2, l3, l4] [.int x] h = some (.inl (some (.int x)), h) := zx_end rfl rfl
theorem zs_213_0 : zrun zP sv C 213 0 [l0, l1, l2, l3, l4, l5, l6] st h = zrun zP sv C 213 1 [l0, l1, l2, l3, l4, l5, l6] (.int 0 :: st) h := zx_go rfl rfl
theorem zs_213_1 (hs : znw l2 = true) : zrun zP sv C 213 1 [l0, l1, l2, l3, l4, l5, l6] (.int x :: st) h = zrun zP sv C 213 2 [l0, l1, .val (.int x), l3, l4, l5, l6] st h := zx_st hs rfl rfl rfl rfl rfl rfl
theorem zs_213_2 : zrun zP sv C 213 2 [.val (.ref a), l1, l2, l3, l4, l5, l6] st h = zrun zP sv C 213 3 [.val (.ref a), l1, l2, l3, l4, l5, l6] (.ref a :: st) h := zx_go rfl rfl
theorem zs_213_3 : zrun zP sv C 213 3 [l0, l1, l2, l3, l4, l5, l6] (.ref a :: st) h = zfld (h.1 a) 13 8 (fun v => zrun zP sv C 213 6 [l0, l1, l2, l3, l4, l5, l6] (v :: st) h) := zx_getf rfl rfl
theorem zs_213_6 : zrun zP sv C 213 6 [l0, l1, l2, l3, l4, l5, l6] st h = zrun zP sv C 213 7 [l0, l1, l2, l3, l4, l5, l6] (.int (nI 1) :: st) h := zx_go rfl rfl
theorem zs_213_7 : zrun zP sv C 213 7 [l0, l1, l2, l3, l4, l5, l6] (.int y :: .int x :: st) h = zrun zP sv C 213 8 [l0, l1, l2, l3, l4, l5, l6] (.int (x - y) :: st) h := zx_go rfl rfl
theorem zs_213_8 (hs : znw l3 = true) : zrun zP sv C 213 8 [l0, l1, l2, l3, l4, l5, l6] (.int x :: st) h = zrun zP sv C 213 9 [l0, l1, l2, .val (.int x), l4, l5, l6] st h := zx_st hs rfl rfl rfl rfl rfl rfl
theorem zs_213_9 : zrun zP sv C 213 9 [l0, l1, l2, .val (.int x), l4, l5, l6] st h = zrun zP sv C 213 10 [l0, l1, l2, .val (.int x), l4, l5, l6] (.int x :: st) h := zx_go rfl rfl
theorem zs_213_10 : zrun zP sv C 213 10 [l0, l1, l2, l3, l4, l5, l6] (.int x :: st) h = if x < 0 then zrun zP sv C 213 105 [l0, l1, l2, l3, l4, l5, l6] st h else zrun zP sv C 213 13 [l0, l1, l2, l3, l4, l5, l6] st h := (zx_if rfl rfl).trans zc2_if
theorem zs_213_13 : zrun zP sv C 213 13 [.val (.ref a), l1, l2, l3, l4, l5, l6] st h = zrun zP sv C 213 14 [.val (.ref a), l1, l2, l3, l4, l5, l6] (.ref a :: st) h := zx_go rfl rfl
theorem zs_213_14 : zrun zP sv C 213 14 [l0, l1, l2, l3, l4, l5, l6] (.ref a :: st) h = zfld (h.1 a) 13 6 (fun v => zrun zP sv C 213 17 [l0, l1, l2, l3, l4, l5, l6] (v :: st) h) := zx_getf rfl rfl
theorem zs_213_17 : zrun zP sv C 213 17 [l0, l1, l2, .val (.int x), l4, l5, l6] st h = zrun zP sv C 213 18 [l0, l1, l2, .val (.int x), l4, l5, l6] (.int x :: st) h := zx_go rfl rfl
theorem zs_213_18 : zrun zP sv C 213 18 [l0, l1, l2, l3, l4, l5, l6] (.int x :: .ref a :: st) h = zael (h.1 a) 21 x (fun v => zrun zP sv C 213 19 [l0, l1, l2, l3, l4, l5, l6] (v :: st) h) := zx_ald rfl rfl
theorem zs_213_19 : zrun zP sv C 213 19 [l0, l1, l2, l3, l4, l5, l6] [v0] h = zbk (C 205 [v0] h) (fun v h' => zrun zP sv C 213 22 [l0, l1, l2, l3, l4, l5, l6] (v.toList ++ []) h') (fun E h' => some (.inr E, h')) := zx_cs rfl rfl rfl rfl ⟨Nat.le_of_ble_eq_true rfl, rfl⟩ (fun _ _ => rfl)
theorem zs_213_22 (hs : znw l4 = true) : zrun zP sv C 213 22 [l0, l1, l2, l3, l4, l5, l6] (.int x :: st) h = zrun zP sv C 213 24 [l0, l1, l2, l3, .val (.int x), l5, l6] st h := zx_st hs rfl rfl rfl rfl rfl rfl
theorem zs_213_24 : zrun zP sv C 213 24 [l0, l1, l2, l3, .val (.int x), l5, l6] st h = zrun zP sv C 213 26 [l0, l1, l2, l3, .val (.int x), l5, l6] (.int x :: st) h := zx_go rfl rfl
theorem zs_213_26 : zrun zP sv C 213 26 [l0, l1, l2, l3, l4, l5, l6] (.int x :: st) h = if 0 < x then zrun zP sv C 213 29 [l0, l1, l2, l3, l4, l5, l6] st h else zrun zP sv C 213 40 [l0, l1, l2, l3, l4, l5, l6] st h := (zx_if rfl rfl).trans zc5_if
theorem zs_213_29 : zrun zP sv C 213 29 [.val (.ref a), l1, l2, l3, l4, l5, l6] st h = zrun zP sv C 213 30 [.val (.ref a), l1, l2, l3, l4, l5, l6] (.ref a :: st) h := zx_go rfl rfl
theorem zs_213_30 : zrun zP sv C 213 30 [l0, l1, l2, l3, l4, l5, l6] (.ref a :: st) h = zfld (h.1 a) 13 13 (fun v => zrun zP sv C 213 33 [l0, l1, l2, l3, l4, l5, l6] (v :: st) h) := zx_getf rfl rfl
theorem zs_213_33 : zrun zP sv C 213 33 [l0, l1, .val (.int x), l3, l4, l5, l6] st h = zrun zP sv C 213 34 [l0, l1, .val (.int x), l3, l4, l5, l6] (.int x :: st) h := zx_go rfl rfl
theorem zs_213_34 : zrun zP sv C 213 34 [l0, l1, l2, l3, l4, l5, l6] st h = zrun zP sv C 213 35 [l0, l1, l2, l3, l4, l5, l6] (.int (nI 1) :: st) h := zx_go rfl rfl
theorem zs_213_35 : zrun zP sv C 213 35 [l0, l1, l2, l3, l4, l5, l6] (.int y :: .int x :: st) h = zrun zP sv C 213 36 [l0, l1, l2, l3, l4, l5, l6] (.int (x - y) :: st) h := zx_go rfl rfl
theorem zs_213_36 : zrun zP sv C 213 36 [l0, l1, l2, l3, l4, l5, l6] (.int x :: .ref a :: st) h = zael (h.1 a) 20 x (fun v => zrun zP sv C 213 37 [l0, l1, l2, l3, l4, l5, l6] (v :: st) h) := zx_ald rfl rfl
theorem zs_213_37 : zrun zP sv C 213 37 [l0, l1, l2, l3, l4, l5, l6] st h = zrun zP sv C 213 41 [l0, l1, l2, l3, l4, l5, l6] st h := zx_go rfl rfl
theorem zs_213_40 : zrun zP sv C 213 40 [l0, l1, l2, l3, l4, l5, l6] st h = zrun zP sv C 213 41 [l0, l1, l2, l3, l4, l5, l6] (.int 0 :: st) h := zx_go rfl rfl
theorem zs_213_41 (hs : znw l5 = true) : zrun zP sv C 213 41 [l0, l1, l2, l3, l4, l5, l6] (.int x :: st) h = zrun zP sv C 213 43 [l0, l1, l2, l3, l4, .val (.int x), l6] st h := zx_st hs rfl rfl rfl rfl rfl rfl
theorem zs_213_43 : zrun zP sv C 213 43 [l0, l1, l2, l3, .val (.int x), l5, l6] st h = zrun zP sv C 213 45 [l0, l1, l2, l3, .val (.int x), l5, l6] (.int x :: st) h := zx_go rfl rfl
theorem zs_213_45 : zrun zP sv C 213 45 [l0, l1, l2, l3, l4, l5, l6] st h = zrun zP sv C 213 46 [l0, l1, l2, l3, l4, l5, l6] (.int (nI 1) :: st) h := zx_go rfl rfl
theorem zs_213_46 : zrun zP sv C 213 46 [l0, l1, l2, l3, l4, l5, l6] (.int y :: .int x :: st) h = if y < x then zrun zP sv C 213 49 [l0, l1, l2, l3, l4, l5, l6] st h else zrun zP sv C 213 60 [l0, l1, l2, l3, l4, l5, l6] st h := (zx_ic rfl rfl).trans zc5_if
theorem zs_213_49 : zrun zP sv C 213 49 [.val (.ref a), l1, l2, l3, l4, l5, l6] st h = zrun zP sv C 213 50 [.val (.ref a), l1, l2, l3, l4, l5, l6] (.ref a :: st) h := zx_go rfl rfl
theorem zs_213_50 : zrun zP sv C 213 50 [l0, l1, l2, l3, l4, l5, l6] (.ref a :: st) h = zfld (h.1 a) 13 13 (fun v => zrun zP sv C 213 53 [l0, l1, l2, l3, l4, l5, l6] (v :: st) h) := zx_getf rfl rfl
theorem zs_213_53 : zrun zP sv C 213 53 [l0, l1, .val (.int x), l3, l4, l5, l6] st h = zrun zP sv C 213 54 [l0, l1, .val (.int x), l3, l4, l5, l6] (.int x :: st) h := zx_go rfl rfl
theorem zs_213_54 : zrun zP sv C 213 54 [l0, l1, l2, l3, l4, l5, l6] st h = zrun zP sv C 213 55 [l0, l1, l2, l3, l4, l5, l6] (.int (nI 2) :: st) h := zx_go rfl rfl
theorem zs_213_55 : zrun zP sv C 213 55 [l0, l1, l2, l3, l4, l5, l6] (.int y :: .int x :: st) h = zrun zP sv C 213 56 [l0, l1, l2, l3, l4, l5, l6] (.int (x - y) :: st) h := zx_go rfl rfl
theorem zs_213_56 : zrun zP sv C 213 56 [l0, l1, l2, l3, l4, l5, l6] (.int x :: .ref a :: st) h = zael (h.1 a) 20 x (fun v => zrun zP sv C 213 57 [l0, l1, l2, l3, l4, l5, l6] (v :: st) h) := zx_ald rfl rfl
theorem zs_213_57 : zrun zP sv C 213 57 [l0, l1, l2, l3, l4, l5, l6] st h = zrun zP sv C 213 61 [l0, l1, l2, l3, l4, l5, l6] st h := zx_go rfl rfl
theorem zs_213_60 : zrun zP sv C 213 60 [l0, l1, l2, l3, l4, l5, l6] st h = zrun zP sv C 213 61 [l0, l1, l2, l3, l4, l5, l6] (.int 0 :: st) h := zx_go rfl rfl
theorem zs_213_61 (hs : znw l6 = true) : zrun zP sv C 213 61 [l0, l1, l2, l3, l4, l5, l6] (.int x :: st) h = zrun zP sv C 213 63 [l0, l1, l2, l3, l4, l5, .val (.int x)] st h := zx_st hs rfl rfl rfl rfl rfl rfl
theorem zs_213_63 : zrun zP sv C 213 63 [.val (.ref a), l1, l2, l3, l4, l5, l6] st h = zrun zP sv C 213 64 [.val (.ref a), l1, l2, l3, l4, l5, l6] (.ref a :: st) h := zx_go rfl rfl
theorem zs_213_64 : zrun zP sv C 213 64 [l0, l1, l2, l3, l4, l5, l6] (.ref a :: st) h = zfld (h.1 a) 13 12 (fun v => zrun zP sv C 213 67 [l0, l1, l2, l3, l4, l5, l6] (v :: st) h) := zx_getf rfl rfl
theorem zs_213_67 : zrun zP sv C 213 67 [l0, l1, l2, .val (.int x), l4, l5, l6] st h = zrun zP sv C 213 68 [l0, l1, l2, .val (.int x), l4, l5, l6] (.int x :: st) h := zx_go rfl rfl
theorem zs_213_68 : zrun zP sv C 213 68 [.val (.ref a), l1, l2, l3, l4, l5, l6] st h = zrun zP sv C 213 69 [.val (.ref a), l1, l2, l3, l4, l5, l6] (.ref a :: st) h := zx_go rfl rfl
theorem zs_213_69 : zrun zP sv C 213 69 [l0, l1, l2, .val (.int x), l4, l5, l6] st h = zrun zP sv C 213 70 [l0, l1, l2, .val (.int x), l4, l5, l6] (.int x :: st) h := zx_go rfl rfl
theorem zs_213_70 : zrun zP sv C 213 70 [l0, .val (.int x), l2, l3, l4, l5, l6] st h = zrun zP sv C 213 71 [l0, .val (.int x), l2, l3, l4, l5, l6] (.int x :: st) h := zx_go rfl rfl
theorem zs_213_71 : zrun zP sv C 213 71 [l0, l1, l2, l3, l4, .val (.int x), l6] st h = zrun zP sv C 213 73 [l0, l1, l2, l3, l4, .val (.int x), l6] (.int x :: st) h := zx_go rfl rfl
theorem zs_213_73 : zrun zP sv C 213 73 [l0, l1, l2, l3, l4, l5, .val (.int x)] st h = zrun zP sv C 213 75 [l0, l1, l2, l3, l4, l5, .val (.int x)] (.int x :: st) h := zx_go rfl rfl
theorem zs_213_75 : zrun zP sv C 213 75 [l0, l1, l2, l3, l4, l5, l6] [v4, v3, v2, v1, .ref b, r0, r1] h = zrc (h.1 b) 13 (zbk (C 212 [.ref b, v1, v2, v3, v4] h) (fun v h' => zrun zP sv C 213 78 [l0, l1, l2, l3, l4, l5, l6] (v.toList ++ [r0, r1]) h') (fun E h' => some (.inr E, h'))) := zx_cv (x0 := 13) rfl rfl rfl rfl rfl ⟨Nat.le_of_ble_eq_true rfl, rfl⟩ (fun _ _ => rfl)
theorem zs_213_78 : zrun zP sv C 213 78 [l0, l1, l2, l3, l4, l5, l6] (.int y :: .int x :: .ref a :: st) h = zaset (h.1 a) 20 x (.int y) (fun c => zrun zP sv C 213 79 [l0, l1, l2, l3, l4, l5, l6] st (zup h a c)) := zx_ast rfl rfl
theorem zs_213_79 : zrun zP sv C 213 79 [l0, l1, .val (.int x), l3, l4, l5, l6] st h = zrun zP sv C 213 80 [l0, l1, .val (.int x), l3, l4, l5, l6] (.int x :: st) h := zx_go rfl rfl
theorem zs_213_80 : zrun zP sv C 213 80 [l0, l1, l2, l3, .val (.int x), l5, l6] st h = zrun zP sv C 213 82 [l0, l1, l2, l3, .val (.int x), l5, l6] (.int x :: st) h := zx_go rfl rfl
theorem zs_213_82 : zrun zP sv C 213 82 [l0, l1, l2, l3, l4, l5, l6] (.int y :: .int x :: st) h = zrun zP sv C 213 83 [l0, l1, l2, l3, l4, l5, l6] (.int (x - y) :: st) h := zx_go rfl rfl
theorem zs_213_83 (hs : znw l2 = true) : zrun zP sv C 213 83 [l0, l1, l2, l3, l4, l5, l6] (.int x :: st) h = zrun zP sv C 213 84 [l0, l1, .val (.int x), l3, l4, l5, l6] st h := zx_st hs rfl rfl rfl rfl rfl rfl
theorem zs_213_84 : zrun zP sv C 213 84 [.val (.ref a), l1, l2, l3, l4, l5, l6] st h = zrun zP sv C 213 85 [.val (.ref a), l1, l2, l3, l4, l5, l6] (.ref a :: st) h := zx_go rfl rfl
theorem zs_213_85 : zrun zP sv C 213 85 [l0, l1, l2, l3, l4, l5, l6] (.ref a :: st) h = zfld (h.1 a) 13 13 (fun v => zrun zP sv C 213 88 [l0, l1, l2, l3, l4, l5, l6] (v :: st) h) := zx_getf rfl rfl
theorem zs_213_88 : zrun zP sv C 213 88 [l0, l1, .val (.int x), l3, l4, l5, l6] st h = zrun zP sv C 213 89 [l0, l1, .val (.int x), l3, l4, l5, l6] (.int x :: st) h := zx_go rfl rfl
theorem zs_213_89 : zrun zP sv C 213 89 [l0, l1, .val (.int x), l3, l4, l5, l6] st h = zrun zP sv C 213 92 [l0, l1, .val (.int (x + (nI 1))), l3, l4, l5, l6] st h := zx_ii rfl rfl rfl rfl rfl
theorem zs_213_92 : zrun zP sv C 213 92 [.val (.ref a), l1, l2, l3, l4, l5, l6] st h = zrun zP sv C 213 93 [.val (.ref a), l1, l2, l3, l4, l5, l6] (.ref a :: st) h := zx_go rfl rfl
theorem zs_213_93 : zrun zP sv C 213 93 [l0, l1, l2, l3, l4, l5, l6] (.ref a :: st) h = zfld (h.1 a) 13 12 (fun v => zrun zP sv C 213 96 [l0, l1, l2, l3, l4, l5, l6] (v :: st) h) := zx_getf rfl rfl
theorem zs_213_96 : zrun zP sv C 213 96 [l0, l1, l2, .val (.int x), l4, l5, l6] st h = zrun zP sv C 213 97 [l0, l1, l2, .val (.int x), l4, l5, l6] (.int x :: st) h := zx_go rfl rfl
theorem zs_213_97 : zrun zP sv C 213 97 [l0, l1, l2, l3, l4, l5, l6] (.int x :: .ref a :: st) h = zael (h.1 a) 20 x (fun v => zrun zP sv C 213 98 [l0, l1, l2, l3, l4, l5, l6] (v :: st) h) := zx_ald rfl rfl
theorem zs_213_98 : zrun zP sv C 213 98 [l0, l1, l2, l3, l4, l5, l6] (.int y :: .int x :: .ref a :: st) h = zaset (h.1 a) 20 x (.int y) (fun c => zrun zP sv C 213 99 [l0, l1, l2, l3, l4, l5, l6] st (zup h a c)) := zx_ast rfl rfl
theorem zs_213_99 : zrun zP sv C 213 99 [l0, l1, l2, .val (.int x), l4, l5, l6] st h = zrun zP sv C 213 102 [l0, l1, l2, .val (.int (x + (-1))), l4, l5, l6] st h := zx_ii rfl rfl rfl rfl rfl
theorem zs_213_102 : zrun zP sv C 213 102 [l0, l1, l2, l3, l4, l5, l6] st h = zrun zP sv C 213 9 [l0, l1, l2, l3, l4, l5, l6] st h := zx_go rfl rfl
theorem zs_213_105 : zrun zP sv C 213 105 [.val (.ref a), l1, l2, l3, l4, l5, l6] st h = zrun zP sv C 213 106 [.val (.ref a), l1, l2, l3, l4, l5, l6] (.ref a :: st) h := zx_go rfl rfl
theorem zs_213_106 : zrun zP sv C 213 106 [l0, l1, l2, l3, l4, l5, l6] (.ref a :: st) h = zfld (h.1 a) 13 13 (fun v => zrun zP sv C 213 109 [l0, l1, l2, l3, l4, l5, l6] (v :: st) h) := zx_getf rfl rfl
theorem zs_213_109 : zrun zP sv C 213 109 [l0, l1, l2, l3, l4, l5, l6] st h = zrun zP sv C 213 110 [l0, l1, l2, l3, l4, l5, l6] (.int 0 :: st) h := zx_go rfl rfl
theorem zs_213_110 : zrun zP sv C 213 110 [l0, l1, l2, l3, l4, l5, l6] (.int x :: .ref a :: st) h = zael (h.1 a) 20 x (fun v => zrun zP sv C 213 111 [l0, l1, l2, l3, l4, l5, l6] (v :: st) h) := zx_ald rfl rfl
theorem zs_213_111 : zrun zP sv C 213 111 [l0, l1, l2, l3, l4, l5, l6] [.int x] h = some (.inl (some (.int x)), h) := zx_end rfl rfl
theorem zs_214_0 : zrun zP sv C 214 0 [.val (.ref a), l1, l2, l3, l4, l5, l6, l7, l8] st h = zrun zP sv C 214 1 [.val (.ref a), l1, l2, l3, l4, l5, l6, l7, l8] (.ref a :: st) h := zx_go rfl rfl
theorem zs_214_1 : zrun zP sv C 214 1 [l0, l1, l2, l3, l4, l5, l6, l7, l8] st h = zrun zP sv C 214 2 [l0, l1, l2, l3, l4, l5, l6, l7, l8] (.int 0 :: st) h := zx_go rfl rfl
theorem zs_214_2 : zrun zP sv C 214 2 [l0, l1, l2, l3, l4, l5, l6, l7, l8] [v1, .ref b] h = zrc (h.1 b) 13 (zbk (C 213 [.ref b, v1] h) (fun v h' => zrun zP sv C 214 5 [l0, l1, l2, l3, l4, l5, l6, l7, l8] (v.toList ++ []) h') (fun E h' => some (.inr E, h'))) := zx_cv (x0 := 13) rfl rfl rfl rfl rfl ⟨Nat.le_of_ble_eq_true rfl, rfl⟩ (fun _ _ => rfl)
theorem zs_214_5 (hs : znw l2 = true) : zrun zP sv C 214 5 [l0, l1, l2, l3, l4, l5, l6, l7, l8] (.int x :: st) h = zrun zP sv C 214 6 [l0, l1, .val (.int x), l3, l4, l5, l6, l7, l8] st h := zx_st hs rfl rfl rfl rfl rfl rfl
theorem zs_214_6 : zrun zP sv C 214 6 [l0, l1, l2, l3, l4, l5, l6, l7, l8] st h = zrun zP sv C 214 7 [l0, l1, l2, l3, l4, l5, l6, l7, l8] (.int 0 :: st) h := zx_go rfl rfl
theorem zs_214_7 (hs : znw l3 = true) : zrun zP sv C 214 7 [l0, l1, l2, l3, l4, l5, l6, l7, l8] (.int x :: st) h = zrun zP sv C 214 8 [l0, l1, l2, .val (.int x), l4, l5, l6, l7, l8] st h := zx_st hs rfl rfl rfl rfl rfl rfl
theorem zs_214_8 : zrun zP sv C 214 8 [.val (.ref a), l1, l2, l3, l4, l5, l6, l7, l8] st h = zrun zP sv C 214 9 [.val (.ref a), l1, l2, l3, l4, l5, l6, l7, l8] (.ref a :: st) h := zx_go rfl rfl
theorem zs_214_9 : zrun zP sv C 214 9 [l0, l1, l2, l3, l4, l5, l6, l7, l8] (.ref a :: st) h = zfld (h.1 a) 13 8 (fun v => zrun zP sv C 214 12 [l0, l1, l2, l3, l4, l5, l6, l7, l8] (v :: st) h) := zx_getf rfl rfl
theorem zs_214_12 : zrun zP sv C 214 12 [l0, l1, l2, l3, l4, l5, l6, l7, l8] st h = zrun zP sv C 214 13 [l0, l1, l2, l3, l4, l5, l6, l7, l8] (.int (nI 1) :: st) h := zx_go rfl rfl
theorem zs_214_13 : zrun zP sv C 214 13 [l0, l1, l2, l3, l4, l5, l6, l7, l8] (.int y :: .int x :: st) h = zrun zP sv C 214 14 [l0, l1, l2, l3, l4, l5, l6, l7, l8] (.int (x - y) :: st) h := zx_go rfl rfl
theorem zs_214_14 (hs : znw l4 = true) : zrun zP sv C 214 14 [l0, l1, l2, l3, l4, l5, l6, l7, l8] (.int x :: st) h = zrun zP sv C 214 16 [l0, l1, l2, l3, .val (.int x), l5, l6, l7, l8] st h := zx_st hs rfl rfl rfl rfl rfl rfl
theorem zs_214_16 : zrun zP sv C 214 16 [l0, l1, l2, l3, .val (.int x), l5, l6, l7, l8] st h = zrun zP sv C 214 18 [l0, l1, l2, l3, .val (.int x), l5, l6, l7, l8] (.int x :: st) h := zx_go rfl rfl
theorem zs_214_18 : zrun zP sv C 214 18 [l0, l1, l2, l3, l4, l5, l6, l7, l8] (.int x :: st) h = if x < 0 then zrun zP sv C 214 208 [l0, l1, l2, l3, l4, l5, l6, l7, l8] st h else zrun zP sv C 214 21 [l0, l1, l2, l3, l4, l5, l6, l7, l8] st h := (zx_if rfl rfl).trans zc2_if
theorem zs_214_21 : zrun zP sv C 214 21 [.val (.ref a), l1, l2, l3, l4, l5, l6, l7, l8] st h = zrun zP sv C 214 22 [.val (.ref a), l1, l2, l3, l4, l5, l6, l7, l8] (.ref a :: st) h := zx_go rfl rfl
theorem zs_214_22 : zrun zP sv C 214 22 [l0, l1, l2, l3, l4, l5, l6, l7, l8] (.ref a :: st) h = zfld (h.1 a) 13 6 (fun v => zrun zP sv C 214 25 [l0, l1, l2, l3, l4, l5, l6, l7, l8] (v :: st) h) := zx_getf rfl rfl
theorem zs_214_25 : zrun zP sv C 214 25 [l0, l1, l2, l3, .val (.int x), l5, l6, l7, l8] st h = zrun zP sv C 214 27 [l0, l1, l2, l3, .val (.int x), l5, l6, l7, l8] (.int x :: st) h := zx_go rfl rfl
theorem zs_214_27 : zrun zP sv C 214 27 [l0, l1, l2, l3, l4, l5, l6, l7, l8] (.int x :: .ref a :: st) h = zael (h.1 a) 21 x (fun v => zrun zP sv C 214 28 [l0, l1, l2, l3, l4, l5, l6, l7, l8] (v :: st) h) := zx_ald rfl rfl
theorem zs_214_28 : zrun zP sv C 214 28 [l0, l1, l2, l3, l4, l5, l6, l7, l8] [v0] h = zbk (C 205 [v0] h) (fun v h' => zrun zP sv C 214 31 [l0, l1, l2, l3, l4, l5, l6, l7, l8] (v.toList ++ []) h') (fun E h' => some (.inr E, h')) := zx_cs rfl rfl rfl rfl ⟨Nat.le_of_ble_eq_true rfl, rfl⟩ (fun _ _ => rfl)
theorem zs_214_31 (hs : znw l5 = true) : zrun zP sv C 214 31 [l0, l1, l2, l3, l4, l5, l6, l7, l8] (.int x :: st) h = zrun zP sv C 214 33 [l0, l1, l2, l3, l4, .val (.int x), l6, l7, l8] st h := zx_st hs rfl rfl rfl rfl rfl rfl
theorem zs_214_33 : zrun zP sv C 214 33 [l0, l1, l2, l3, l4, .val (.int x), l6, l7, l8] st h = zrun zP sv C 214 35 [l0, l1, l2, l3, l4, .val (.int x), l6, l7, l8] (.int x :: st) h := zx_go rfl rfl
theorem zs_214_35 : zrun zP sv C 214 35 [l0, l1, l2, l3, l4, l5, l6, l7, l8] (.int x :: st) h = if 0 < x then zrun zP sv C 214 38 [l0, l1, l2, l3, l4, l5, l6, l7, l8] st h else zrun zP sv C 214 49 [l0, l1, l2, l3, l4, l5, l6, l7, l8] st h := (zx_if rfl rfl).trans zc5_if
theorem zs_214_38 : zrun zP sv C 214 38 [.val (.ref a), l1, l2, l3, l4, l5, l6, l7, l8] st h = zrun zP sv C 214 39 [.val (.ref a), l1, l2, l3, l4, l5, l6, l7, l8] (.ref a :: st) h := zx_go rfl rfl
theorem zs_214_39 : zrun zP sv C 214 39 [l0, l1, l2, l3, l4, l5, l6, l7, l8] (.ref a :: st) h = zfld (h.1 a) 13 14 (fun v => zrun zP sv C 214 42 [l0, l1, l2, l3, l4, l5, l6, l7, l8] (v :: st) h) := zx_getf rfl rfl
theorem zs_214_42 : zrun zP sv C 214 42 [l0, l1, l2, .val (.int x), l4, l5, l6, l7, l8] st h = zrun zP sv C 214 43 [l0, l1, l2, .val (.int x), l4, l5, l6, l7, l8] (.int x :: st) h := zx_go rfl rfl
theorem zs_214_43 : zrun zP sv C 214 43 [l0, l1, l2, l3, l4, l5, l6, l7, l8] st h = zrun zP sv C 214 44 [l0, l1, l2, l3, l4, l5, l6, l7, l8] (.int (nI 1) :: st) h := zx_go rfl rfl
theorem zs_214_44 : zrun zP sv C 214 44 [l0, l1, l2, l3, l4, l5, l6, l7, l8] (.int y :: .int x :: st) h = zrun zP sv C 214 45 [l0, l1, l2, l3, l4, l5, l6, l7, l8] (.int (x - y) :: st) h := zx_go rfl rfl
theorem zs_214_45 : zrun zP sv C 214 45 [l0, l1, l2, l3, l4, l5, l6, l7, l8] (.int x :: .ref a :: st) h = zael (h.1 a) 20 x (fun v => zrun zP sv C 214 46 [l0, l1, l2, l3, l4, l5, l6, l7, l8] (v :: st) h) := zx_ald rfl rfl
theorem zs_214_46 : zrun zP sv C 214 46 [l0, l1, l2, l3, l4, l5, l6, l7, l8] st h = zrun zP sv C 214 50 [l0, l1, l2, l3, l4, l5, l6, l7, l8] st h := zx_go rfl rfl
theorem zs_214_49 : zrun zP sv C 214 49 [l0, l1, l2, l3, l4, l5, l6, l7, l8] st h = zrun zP sv C 214 50 [l0, l1, l2, l3, l4, l5, l6, l7, l8] (.int 0 :: st) h := zx_go rfl rfl
theorem zs_214_50 (hs : znw l6 = true) : zrun zP sv C 214 50 [l0, l1, l2, l3, l4, l5, l6, l7, l8] (.int x :: st) h = zrun zP sv C 214 52 [l0, l1, l2, l3, l4, l5, .val (.int x), l7, l8] st h := zx_st hs rfl rfl rfl rfl rfl rfl
theorem zs_214_52 : zrun zP sv C 214 52 [l0, l1, l2, l3, l4, .val (.int x), l6, l7, l8] st h = zrun zP sv C 214 54 [l0, l1, l2, l3, l4, .val (.int x), l6, l7, l8] (.int x :: st) h := zx_go rfl rfl
theorem zs_214_54 : zrun zP sv C 214 54 [l0, l1, l2, l3, l4, l5, l6, l7, l8] st h = zrun zP sv C 214 55 [l0, l1, l2, l3, l4, l5, l6, l7, l8] (.int (nI 1) :: st) h := zx_go rfl rfl
theorem zs_214_55 : zrun zP sv C 214 55 [l0, l1, l2, l3, l4, l5, l6, l7, l8] (.int y :: .int x :: st) h = if y < x then zrun zP sv C 214 58 [l0, l1, l2, l3, l4, l5, l6, l7, l8] st h else zrun zP sv C 214 69 [l0, l1, l2, l3, l4, l5, l6, l7, l8] st h := (zx_ic rfl rfl).trans zc5_if
theorem zs_214_58 : zrun zP sv C 214 58 [.val (.ref a), l1, l2, l3, l4, l5, l6, l7, l8] st h = zrun zP sv C 214 59 [.val (.ref a), l1, l2, l3, l4, l5, l6, l7, l8] (.ref a :: st) h := zx_go rfl rfl
theorem zs_214_59 : zrun zP sv C 214 59 [l0, l1, l2, l3, l4, l5, l6, l7, l8] (.ref a :: st) h = zfld (h.1 a) 13 14 (fun v => zrun zP sv C 214 62 [l0, l1, l2, l3, l4, l5, l6, l7, l8] (v :: st) h) := zx_getf rfl rfl
theorem zs_214_62 : zrun zP sv C 214 62 [l0, l1, l2, .val (.int x), l4, l5, l6, l7, l8] st h = zrun zP sv C 214 63 [l0, l1, l2, .val (.int x), l4, l5, l6, l7, l8] (.int x :: st) h := zx_go rfl rfl
theorem zs_214_63 : zrun zP sv C 214 63 [l0, l1, l2, l3, l4, l5, l6, l7, l8] st h = zrun zP sv C 214 64 [l0, l1, l2, l3, l4, l5, l6, l7, l8] (.int (nI 2) :: st) h := zx_go rfl rfl
theorem zs_214_64 : zrun zP sv C 214 64 [l0, l1, l2, l3, l4, l5, l6, l7, l8] (.int y :: .int x :: st) h = zrun zP sv C 214 65 [l0, l1, l2, l3, l4, l5, l6, l7, l8] (.int (x - y) :: st) h := zx_go rfl rfl
theorem zs_214_65 : zrun zP sv C 214 65 [l0, l1, l2, l3, l4, l5, l6, l7, l8] (.int x :: .ref a :: st) h = zael (h.1 a) 20 x (fun v => zrun zP sv C 214 66 [l0, l1, l2, l3, l4, l5, l6, l7, l8] (v :: st) h) := zx_ald rfl rfl
theorem zs_214_66 : zrun zP sv C 214 66 [l0, l1, l2, l3, l4, l5, l6, l7, l8] st h = zrun zP sv C 214 70 [l0, l1, l2, l3, l4, l5, l6, l7, l8] st h := zx_go rfl rfl
theorem zs_214_69 : zrun zP sv C 214 69 [l0, l1, l2, l3, l4, l5, l6, l7, l8] st h = zrun zP sv C 214 70 [l0, l1, l2, l3, l4, l5, l6, l7, l8] (.int 0 :: st) h := zx_go rfl rfl
theorem zs_214_70 (hs : znw l7 = true) : zrun zP sv C 214 70 [l0, l1, l2, l3, l4, l5, l6, l7, l8] (.int x :: st) h = zrun zP sv C 214 72 [l0, l1, l2, l3, l4, l5, l6, .val (.int x), l8] st h := zx_st hs rfl rfl rfl rfl rfl rfl
theorem zs_214_72 : zrun zP sv C 214 72 [.val (.ref a), l1, l2, l3, l4, l5, l6, l7, l8] st h = zrun zP sv C 214 73 [.val (.ref a), l1, l2, l3, l4, l5, l6, l7, l8] (.ref a :: st) h := zx_go rfl rfl
theorem zs_214_73 : zrun zP sv C 214 73 [l0, l1, l2, l3, l4, l5, l6, l7, l8] (.ref a :: st) h = zfld (h.1 a) 13 6 (fun v => zrun zP sv C 214 76 [l0, l1, l2, l3, l4, l5, l6, l7, l8] (v :: st) h) := zx_getf rfl rfl
theorem zs_214_76 : zrun zP sv C 214 76 [l0, l1, l2, l3, .val (.int x), l5, l6, l7, l8] st h = zrun zP sv C 214 78 [l0, l1, l2, l3, .val (.int x), l5, l6, l7, l8] (.int x :: st) h := zx_go rfl rfl
theorem zs_214_78 : zrun zP sv C 214 78 [l0, l1, l2, l3, l4, l5, l6, l7, l8] (.int x :: .ref a :: st) h = zael (h.1 a) 21 x (fun v => zrun zP sv C 214 79 [l0, l1, l2, l3, l4, l5, l6, l7, l8] (v :: st) h) := zx_ald rfl rfl
theorem zs_214_79 : zrun zP sv C 214 79 [l0, l1, l2, l3, l4, l5, l6, l7, l8] st h = zrun zP sv C 214 81 [l0, l1, l2, l3, l4, l5, l6, l7, l8] (.int (nI 118) :: st) h := zx_go rfl rfl
theorem zs_214_81 : zrun zP sv C 214 81 [l0, l1, l2, l3, l4, l5, l6, l7, l8] (.int y :: .int x :: st) h = if x = y then zrun zP sv C 214 84 [l0, l1, l2, l3, l4, l5, l6, l7, l8] st h else zrun zP sv C 214 99 [l0, l1, l2, l3, l4, l5, l6, l7, l8] st h := (zx_ic rfl rfl).trans zc1_if
theorem zs_214_84 : zrun zP sv C 214 84 [.val (.ref a), l1, l2, l3, l4, l5, l6, l7, l8] st h = zrun zP sv C 214 85 [.val (.ref a), l1, l2, l3, l4, l5, l6, l7, l8] (.ref a :: st) h := zx_go rfl rfl
theorem zs_214_85 : zrun zP sv C 214 85 [l0, l1, l2, l3, l4, l5, l6, l7, l8] (.ref a :: st) h = zfld (h.1 a) 13 7 (fun v => zrun zP sv C 214 88 [l0, l1, l2, l3, l4, l5, l6, l7, l8] (v :: st) h) := zx_getf rfl rfl
theorem zs_214_88 : zrun zP sv C 214 88 [l0, l1, l2, l3, .val (.int x), l5, l6, l7, l8] st h = zrun zP sv C 214 90 [l0, l1, l2, l3, .val (.int x), l5, l6, l7, l8] (.int x :: st) h := zx_go rfl rfl
theorem zs_214_90 : zrun zP sv C 214 90 [l0, l1, l2, l3, l4, l5, l6, l7, l8] (.int x :: .ref a :: st) h = zael (h.1 a) 20 x (fun v => zrun zP sv C 214 91 [l0, l1, l2, l3, l4, l5, l6, l7, l8] (v :: st) h) := zx_ald rfl rfl
theorem zs_214_91 : zrun zP sv C 214 91 [l0, .val (.int x), l2, l3, l4, l5, l6, l7, l8] st h = zrun zP sv C 214 92 [l0, .val (.int x), l2, l3, l4, l5, l6, l7, l8] (.int x :: st) h := zx_go rfl rfl
theorem zs_214_92 : zrun zP sv C 214 92 [l0, l1, l2, l3, l4, l5, l6, l7, l8] (.int y :: .int x :: st) h = if x = y then zrun zP sv C 214 95 [l0, l1, l2, l3, l4, l5, l6, l7, l8] st h else zrun zP sv C 214 99 [l0, l1, l2, l3, l4, l5, l6, l7, l8] st h := (zx_ic rfl rfl).trans zc1_if
theorem zs_214_95 : zrun zP sv C 214 95 [l0, l1, l2, l3, l4, l5, l6, l7, l8] st h = zrun zP sv C 214 96 [l0, l1, l2, l3, l4, l5, l6, l7, l8] (.int (nI 1) :: st) h := zx_go rfl rfl
theorem zs_214_96 : zrun zP sv C 214 96 [l0, l1, l2, l3, l4, l5, l6, l7, l8] st h = zrun zP sv C 214 118 [l0, l1, l2, l3, l4, l5, l6, l7, l8] st h := zx_go rfl rfl
theorem zs_214_99 : zrun zP sv C 214 99 [.val (.ref a), l1, l2, l3, l4, l5, l6, l7, l8] st h = zrun zP sv C 214 100 [.val (.ref a), l1, l2, l3, l4, l5, l6, l7, l8] (.ref a :: st) h := zx_go rfl rfl
theorem zs_214_100 : zrun zP sv C 214 100 [l0, l1, l2, l3, l4, l5, l6, l7, l8] (.ref a :: st) h = zfld (h.1 a) 13 6 (fun v => zrun zP sv C 214 103 [l0, l1, l2, l3, l4, l5, l6, l7, l8] (v :: st) h) := zx_getf rfl rfl
theorem zs_214_103 : zrun zP sv C 214 103 [l0, l1, l2, l3, .val (.int x), l5, l6, l7, l8] st h = zrun zP sv C 214 105 [l0, l1, l2, l3, .val (.int x), l5, l6, l7, l8] (.int x :: st) h := zx_go rfl rfl
theorem zs_214_105 : zrun zP sv C 214 105 [l0, l1, l2, l3, l4, l5, l6, l7, l8] (.int x :: .ref a :: st) h = zael (h.1 a) 21 x (fun v => zrun zP sv C 214 106 [l0, l1, l2, l3, l4, l5, l6, l7, l8] (v :: st) h) := zx_ald rfl rfl
theorem zs_214_106 : zrun zP sv C 214 106 [l0, l1, l2, l3, l4, l5, l6, l7, l8] st h = zrun zP sv C 214 108 [l0, l1, l2, l3, l4, l5, l6, l7, l8] (.int (nI 110) :: st) h := zx_go rfl rfl
theorem zs_214_108 : zrun zP sv C 214 108 [l0, l1, l2, l3, l4, l5, l6, l7, l8] (.int y :: .int x :: st) h = if x = y then zrun zP sv C 214 111 [l0, l1, l2, l3, l4, l5, l6, l7, l8] st h else zrun zP sv C 214 117 [l0, l1, l2, l3, l4, l5, l6, l7, l8] st h := (zx_ic rfl rfl).trans zc1_if
theorem zs_214_111 : zrun zP sv C 214 111 [l0, l1, l2, l3, l4, l5, .val (.int x), l7, l8] st h = zrun zP sv C 214 113 [l0, l1, l2, l3, l4, l5, .val (.int x), l7, l8] (.int x :: st) h := zx_go rfl rfl
theorem zs_214_113 : zrun zP sv C 214 113 [l0, l1, l2, l3, l4, l5, l6, l7, l8] (.int x :: st) h = zrun zP sv C 214 114 [l0, l1, l2, l3, l4, l5, l6, l7, l8] (.int (-x) :: st) h := zx_go rfl rfl
theorem zs_214_114 : zrun zP sv C 214 114 [l0, l1, l2, l3, l4, l5, l6, l7, l8] st h = zrun zP sv C 214 118 [l0, l1, l2, l3, l4, l5, l6, l7, l8] st h := zx_go rfl rfl
theorem zs_214_117 : zrun zP sv C 214 117 [l0, l1, l2, l3, l4, l5, l6, l7, l8] st h = zrun zP sv C 214 118 [l0, l1, l2, l3, l4, l5, l6, l7, l8] (.int 0 :: st) h := zx_go rfl rfl
theorem zs_214_118 (hs : znw l8 = true) : zrun zP sv C 214 118 [l0, l1, l2, l3, l4, l5, l6, l7, l8] (.int x :: st) h = zrun zP sv C 214 120 [l0, l1, l2, l3, l4, l5, l6, l7, .val (.int x)] st h := zx_st hs rfl rfl rfl rfl rfl rfl
theorem zs_214_120 : zrun zP sv C 214 120 [l0, l1, l2, l3, l4, .val (.int x), l6, l7, l8] st h = zrun zP sv C 214 122 [l0, l1, l2, l3, l4, .val (.int x), l6, l7, l8] (.int x :: st) h := zx_go rfl rfl
theorem zs_214_122 : zrun zP sv C 214 122 [l0, l1, l2, l3, l4, l5, l6, l7, l8] st h = zrun zP sv C 214 123 [l0, l1, l2, l3, l4, l5, l6, l7, l8] (.int (nI 2) :: st) h := zx_go rfl rfl
theorem zs_214_123 : zrun zP sv C 214 123 [l0, l1, l2, l3, l4, l5, l6, l7, l8] (.int y :: .int x :: st) h = if x = y then zrun zP sv C 214 126 [l0, l1, l2, l3, l4, l5, l6, l7, l8] st h else zrun zP sv C 214 186 [l0, l1, l2, l3, l4, l5, l6, l7, l8] st h := (zx_ic rfl rfl).trans zc1_if
theorem zs_214_126 : zrun zP sv C 214 126 [.val (.ref a), l1, l2, l3, l4, l5, l6, l7, l8] st h = zrun zP sv C 214 127 [.val (.ref a), l1, l2, l3, l4, l5, l6, l7, l8] (.ref a :: st) h := zx_go rfl rfl
theorem zs_214_127 : zrun zP sv C 214 127 [l0, l1, l2, l3, l4, l5, l6, l7, l8] (.ref a :: st) h = zfld (h.1 a) 13 6 (fun v => zrun zP sv C 214 130 [l0, l1, l2, l3, l4, l5, l6, l7, l8] (v :: st) h) := zx_getf rfl rfl
theorem zs_214_130 : zrun zP sv C 214 130 [l0, l1, l2, l3, .val (.int x), l5, l6, l7, l8] st h = zrun zP sv C 214 132 [l0, l1, l2, l3, .val (.int x), l5, l6, l7, l8] (.int x :: st) h := zx_go rfl rfl
theorem zs_214_132 : zrun zP sv C 214 132 [l0, l1, l2, l3, l4, l5, l6, l7, l8] (.int x :: .ref a :: st) h = zael (h.1 a) 21 x (fun v => zrun zP sv C 214 133 [l0, l1, l2, l3, l4, l5, l6, l7, l8] (v :: st) h) := zx_ald rfl rfl
theorem zs_214_133 : zrun zP sv C 214 133 [l0, l1, l2, l3, l4, l5, l6, l7, l8] st h = zrun zP sv C 214 135 [l0, l1, l2, l3, l4, l5, l6, l7, l8] (.int (nI 42) :: st) h := zx_go rfl rfl
theorem zs_214_135 : zrun zP sv C 214 135 [l0, l1, l2, l3, l4, l5, l6, l7, l8] (.int y :: .int x :: st) h = if x = y then zrun zP sv C 214 138 [l0, l1, l2, l3, l4, l5, l6, l7, l8] st h else zrun zP sv C 214 170 [l0, l1, l2, l3, l4, l5, l6, l7, l8] st h := (zx_ic rfl rfl).trans zc1_if
theorem zs_214_138 : zrun zP sv C 214 138 [l0, l1, l2, l3, l4, l5, .val (.int x), l7, l8] st h = zrun zP sv C 214 140 [l0, l1, l2, l3, l4, l5, .val (.int x), l7, l8] (.int x :: st) h := zx_go rfl rfl
theorem zs_214_140 : zrun zP sv C 214 140 [.val (.ref a), l1, l2, l3, l4, l5, l6, l7, l8] st h = zrun zP sv C 214 141 [.val (.ref a), l1, l2, l3, l4, l5, l6, l7, l8] (.ref a :: st) h := zx_go rfl rfl
theorem zs_214_141 : zrun zP sv C 214 141 [l0, l1, l2, l3, l4, l5, l6, l7, l8] (.ref a :: st) h = zfld (h.1 a) 13 12 (fun v => zrun zP sv C 214 144 [l0, l1, l2, l3, l4, l5, l6, l7, l8] (v :: st) h) := zx_getf rfl rfl
theorem zs_214_144 : zrun zP sv C 214 144 [.val (.ref a), l1, l2, l3, l4, l5, l6, l7, l8] st h = zrun zP sv C 214 145 [.val (.ref a), l1, l2, l3, l4, l5, l6, l7, l8] (.ref a :: st) h := zx_go rfl rfl
theorem zs_214_145 : zrun zP sv C 214 145 [l0, l1, l2, l3, .val (.int x), l5, l6, l7, l8] st h = zrun zP sv C 214 147 [l0, l1, l2, l3, .val (.int x), l5, l6, l7, l8] (.int x :: st) h := zx_go rfl rfl
theorem zs_214_147 : zrun zP sv C 214 147 [l0, l1, l2, l3, l4, l5, l6, l7, l8] st h = zrun zP sv C 214 148 [l0, l1, l2, l3, l4, l5, l6, l7, l8] (.int (nI 1) :: st) h := zx_go rfl rfl
theorem zs_214_148 : zrun zP sv C 214 148 [l0, l1, l2, l3, l4, l5, l6, l7, l8] (.int y :: .int x :: st) h = zrun zP sv C 214 149 [l0, l1, l2, l3, l4, l5, l6, l7, l8] (.int (x + y) :: st) h := zx_go rfl rfl
theorem zs_214_149 : zrun zP sv C 214 149 [l0, l1, l2, l3, l4, l5, l6, l7, l8] [v1, .ref b, r0, r1] h = zrc (h.1 b) 13 (zbk (C 209 [.ref b, v1] h) (fun v h' => zrun zP sv C 214 152 [l0, l1, l2, l3, l4, l5, l6, l7, l8] (v.toList ++ [r0, r1]) h') (fun E h' => some (.inr E, h'))) := zx_cv (x0 := 13) rfl rfl rfl rfl rfl ⟨Nat.le_of_ble_eq_true rfl, rfl⟩ (fun _ _ => rfl)
theorem zs_214_152 : zrun zP sv C 214 152 [l0, l1, l2, l3, l4, l5, l6, l7, l8] (.int x :: .ref a :: st) h = zael (h.1 a) 20 x (fun v => zrun zP sv C 214 153 [l0, l1, l2, l3, l4, l5, l6, l7, l8] (v :: st) h) := zx_ald rfl rfl
theorem zs_214_153 : zrun zP sv C 214 153 [l0, l1, l2, l3, l4, l5, l6, l7, l8] (.int y :: .int x :: st) h = zrun zP sv C 214 154 [l0, l1, l2, l3, l4, l5, l6, l7, l8] (.int (x * y) :: st) h := zx_go rfl rfl
theorem zs_214_154 : zrun zP sv C 214 154 [.val (.ref a), l1, l2, l3, l4, l5, l6, l7, l8] st h = zrun zP sv C 214 155 [.val (.ref a), l1, l2, l3, l4, l5, l6, l7, l8] (.ref a :: st) h := zx_go rfl rfl
theorem zs_214_155 : zrun zP sv C 214 155 [l0, l1, l2, l3, l4, l5, l6, l7, l8] (.ref a :: st) h = zfld (h.1 a) 13 12 (fun v => zrun zP sv C 214 158 [l0, l1, l2, l3, l4, l5, l6, l7, l8] (v :: st) h) := zx_getf rfl rfl
theorem zs_214_158 : zrun zP sv C 214 158 [l0, l1, l2, l3, .val (.int x), l5, l6, l7, l8] st h = zrun zP sv C 214 160 [l0, l1, l2, l3, .val (.int x), l5, l6, l7, l8] (.int x :: st) h := zx_go rfl rfl
theorem zs_214_160 : zrun zP sv C 214 160 [l0, l1, l2, l3, l4, l5, l6, l7, l8] st h = zrun zP sv C 214 161 [l0, l1, l2, l3, l4, l5, l6, l7, l8] (.int (nI 1) :: st) h := zx_go rfl rfl
theorem zs_214_161 : zrun zP sv C 214 161 [l0, l1, l2, l3, l4, l5, l6, l7, l8] (.int y :: .int x :: st) h = zrun zP sv C 214 162 [l0, l1, l2, l3, l4, l5, l6, l7, l8] (.int (x + y) :: st) h := zx_go rfl rfl
theorem zs_214_162 : zrun zP sv C 214 162 [l0, l1, l2, l3, l4, l5, l6, l7, l8] (.int x :: .ref a :: st) h = zael (h.1 a) 20 x (fun v => zrun zP sv C 214 163 [l0, l1, l2, l3, l4, l5, l6, l7, l8] (v :: st) h) := zx_ald rfl rfl
theorem zs_214_163 : zrun zP sv C 214 163 [l0, l1, l2, l3, l4, l5, l6, .val (.int x), l8] st h = zrun zP sv C 214 165 [l0, l1, l2, l3, l4, l5, l6, .val (.int x), l8] (.int x :: st) h := zx_go rfl rfl
theorem zs_214_165 : zrun zP sv C 214 165 [l0, l1, l2, l3, l4, l5, l6, l7, l8] (.int y :: .int x :: st) h = zrun zP sv C 214 166 [l0, l1, l2, l3, l4, l5, l6, l7, l8] (.int (x * y) :: st) h := zx_go rfl rfl
theorem zs_214_166 : zrun zP sv C 214 166 [l0, l1, l2, l3, l4, l5, l6, l7, l8] (.int y :: .int x :: st) h = zrun zP sv C 214 167 [l0, l1, l2, l3, l4, l5, l6, l7, l8] (.int (x + y) :: st) h := zx_go rfl rfl
theorem zs_214_167 : zrun zP sv C 214 167 [l0, l1, l2, l3, l4, l5, l6, l7, l8] st h = zrun zP sv C 214 184 [l0, l1, l2, l3, l4, l5, l6, l7, l8] st h := zx_go rfl rfl
theorem zs_214_170 : zrun zP sv C 214 170 [.val (.ref a), l1, l2, l3, l4, l5, l6, l7, l8] st h = zrun zP sv C 214 171 [.val (.ref a), l1, l2, l3, l4, l5, l6, l7, l8] (.ref a :: st) h := zx_go rfl rfl
theorem zs_214_171 : zrun zP sv C 214 171 [l0, l1, l2, l3, l4, l5, l6, l7, l8] (.ref a :: st) h = zfld (h.1 a) 13 6 (fun v => zrun zP sv C 214 174 [l0, l1, l2, l3, l4, l5, l6, l7, l8] (v :: st) h) := zx_getf rfl rfl
theorem zs_214_174 : zrun zP sv C 214 174 [l0, l1, l2, l3, .val (.int x), l5, l6, l7, l8] st h = zrun zP sv C 214 176 [l0, l1, l2, l3, .val (.int x), l5, l6, l7, l8] (.int x :: st) h := zx_go rfl rfl
theorem zs_214_176 : zrun zP sv C 214 176 [l0, l1, l2, l3, l4, l5, l6, l7, l8] (.int x :: .ref a :: st) h = zael (h.1 a) 21 x (fun v => zrun zP sv C 214 177 [l0, l1, l2, l3, l4, l5, l6, l7, l8] (v :: st) h) := zx_ald rfl rfl
theorem zs_214_177 : zrun zP sv C 214 177 [l0, l1, l2, l3, l4, l5, .val (.int x), l7, l8] st h = zrun zP sv C 214 179 [l0, l1, l2, l3, l4, l5, .val (.int x), l7, l8] (.int x :: st) h := zx_go rfl rfl
theorem zs_214_179 : zrun zP sv C 214 179 [l0, l1, l2, l3, l4, l5, l6, .val (.int x), l8] st h = zrun zP sv C 214 181 [l0, l1, l2, l3, l4, l5, l6, .val (.int x), l8] (.int x :: st) h := zx_go rfl rfl
theorem zs_214_181 : zrun zP sv C 214 181 [l0, l1, l2, l3, l4, l5, l6, l7, l8] [v2, v1, v0] h = zbk (C 211 [v0, v1, v2] h) (fun v h' => zrun zP sv C 214 184 [l0, l1, l2, l3, l4, l5, l6, l7, l8] (v.toList ++ []) h') (fun E h' => some (.inr E, h')) := zx_cs rfl rfl rfl rfl ⟨Nat.le_of_ble_eq_true rfl, rfl⟩ (fun _ _ => rfl)
theorem zs_214_184 (hs : znw l8 = true) : zrun zP sv C 214 184 [l0, l1, l2, l3, l4, l5, l6, l7, l8] (.int x :: st) h = zrun zP sv C 214 186 [l0, l1, l2, l3, l4, l5, l6, l7, .val (.int x)] st h := zx_st hs rfl rfl rfl rfl rfl rfl
theorem zs_214_186 : zrun zP sv C 214 186 [l0, l1, l2, .val (.int x), l4, l5, l6, l7, l8] st h = zrun zP sv C 214 187 [l0, l1, l2, .val (.int x), l4, l5, l6, l7, l8] (.int x :: st) h := zx_go rfl rfl
theorem zs_214_187 : zrun zP sv C 214 187 [l0, l1, l2, l3, l4, .val (.int x), l6, l7, l8] st h = zrun zP sv C 214 189 [l0, l1, l2, l3, l4, .val (.int x), l6, l7, l8] (.int x :: st) h := zx_go rfl rfl
theorem zs_214_189 : zrun zP sv C 214 189 [l0, l1, l2, l3, l4, l5, l6, l7, l8] (.int y :: .int x :: st) h = zrun zP sv C 214 190 [l0, l1, l2, l3, l4, l5, l6, l7, l8] (.int (x - y) :: st) h := zx_go rfl rfl
theorem zs_214_190 (hs : znw l3 = true) : zrun zP sv C 214 190 [l0, l1, l2, l3, l4, l5, l6, l7, l8] (.int x :: st) h = zrun zP sv C 214 191 [l0, l1, l2, .val (.int x), l4, l5, l6, l7, l8] st h := zx_st hs rfl rfl rfl rfl rfl rfl
theorem zs_214_191 : zrun zP sv C 214 191 [.val (.ref a), l1, l2, l3, l4, l5, l6, l7, l8] st h = zrun zP sv C 214 192 [.val (.ref a), l1, l2, l3, l4, l5, l6, l7, l8] (.ref a :: st) h := zx_go rfl rfl
theorem zs_214_192 : zrun zP sv C 214 192 [l0, l1, l2, l3, l4, l5, l6, l7, l8] (.ref a :: st) h = zfld (h.1 a) 13 14 (fun v => zrun zP sv C 214 195 [l0, l1, l2, l3, l4, l5, l6, l7, l8] (v :: st) h) := zx_getf rfl rfl
theorem zs_214_195 : zrun zP sv C 214 195 [l0, l1, l2, .val (.int x), l4, l5, l6, l7, l8] st h = zrun zP sv C 214 196 [l0, l1, l2, .val (.int x), l4, l5, l6, l7, l8] (.int x :: st) h := zx_go rfl rfl
theorem zs_214_196 : zrun zP sv C 214 196 [l0, l1, l2, .val (.int x), l4, l5, l6, l7, l8] st h = zrun zP sv C 214 199 [l0, l1, l2, .val (.int (x + (nI 1))), l4, l5, l6, l7, l8] st h := zx_ii rfl rfl rfl rfl rfl
theorem zs_214_199 : zrun zP sv C 214 199 [l0, l1, l2, l3, l4, l5, l6, l7, .val (.int x)] st h = zrun zP sv C 214 201 [l0, l1, l2, l3, l4, l5, l6, l7, .val (.int x)] (.int x :: st) h := zx_go rfl rfl
theorem zs_214_201 : zrun zP sv C 214 201 [l0, l1, l2, l3, l4, l5, l6, l7, l8] (.int y :: .int x :: .ref a :: st) h = zaset (h.1 a) 20 x (.int y) (fun c => zrun zP sv C 214 202 [l0, l1, l2, l3, l4, l5, l6, l7, l8] st (zup h a c)) := zx_ast rfl rfl
theorem zs_214_202 : zrun zP sv C 214 202 [l0, l1, l2, l3, .val (.int x), l5, l6, l7, l8] st h = zrun zP sv C 214 205 [l0, l1, l2, l3, .val (.int (x + (-1))), l5, l6, l7, l8] st h := zx_ii rfl rfl rfl rfl rfl
theorem zs_214_205 : zrun zP sv C 214 205 [l0, l1, l2, l3, l4, l5, l6, l7, l8] st h = zrun zP sv C 214 16 [l0, l1, l2, l3, l4, l5, l6, l7, l8] st h := zx_go rfl rfl
theorem zs_214_208 : zrun zP sv C 214 208 [.val (.ref a), l1, l2, l3, l4, l5, l6, l7, l8] st h = zrun zP sv C 214 209 [.val (.ref a), l1, l2, l3, l4, l5, l6, l7, l8] (.ref a :: st) h := zx_go rfl rfl
theorem zs_214_209 : zrun zP sv C 214 209 [l0, l1, l2, l3, l4, l5, l6, l7, l8] (.ref a :: st) h = zfld (h.1 a) 13 14 (fun v => zrun zP sv C 214 212 [l0, l1, l2, l3, l4, l5, l6, l7, l8] (v :: st) h) := zx_getf rfl rfl
theorem zs_214_212 : zrun zP sv C 214 212 [l0, l1, l2, l3, l4, l5, l6, l7, l8] st h = zrun zP sv C 214 213 [l0, l1, l2, l3, l4, l5, l6, l7, l8] (.int 0 :: st) h := zx_go rfl rfl
theorem zs_214_213 : zrun zP sv C 214 213 [l0, l1, l2, l3, l4, l5, l6, l7, l8] (.int x :: .ref a :: st) h = zael (h.1 a) 20 x (fun v => zrun zP sv C 214 214 [l0, l1, l2, l3, l4, l5, l6, l7, l8] (v :: st) h) := zx_ald rfl rfl
theorem zs_214_214 : zrun zP sv C 214 214 [l0, l1, l2, l3, l4, l5, l6, l7, l8] [.int x] h = some (.inl (some (.int x)), h) := zx_end rfl rfl
theorem zs_215_0 : zrun zP sv C 215 0 [.val (.ref a)] st h = zrun zP sv C 215 1 [.val (.ref a)] (.ref a :: st) h := zx_go rfl rfl
theorem zs_215_1 : zrun zP sv C 215 1 [l0] (.ref a :: st) h = zfld (h.1 a) 13 8 (fun v => zrun zP sv C 215 4 [l0] (v :: st) h) := zx_getf rfl rfl
theorem zs_215_4 : zrun zP sv C 215 4 [l0] st h = zrun zP sv C 215 6 [l0] (.int (nI 31) :: st) h := zx_go rfl rfl
theorem zs_215_6 : zrun zP sv C 215 6 [l0] (.int y :: .int x :: st) h = if y < x then zrun zP sv C 215 23 [l0] st h else zrun zP sv C 215 9 [l0] st h := (zx_ic rfl rfl).trans zc4_if
theorem zs_215_9 : zrun zP sv C 215 9 [.val (.ref a)] st h = zrun zP sv C 215 10 [.val (.ref a)] (.ref a :: st) h := zx_go rfl rfl
theorem zs_215_10 : zrun zP sv C 215 10 [l0] st h = zrun zP sv C 215 11 [l0] (.int (nI 1) :: st) h := zx_go rfl rfl
theorem zs_215_11 : zrun zP sv C 215 11 [l0] [v1, .ref b] h = zrc (h.1 b) 13 (zbk (C 213 [.ref b, v1] h) (fun v h' => zrun zP sv C 215 14 [l0] (v.toList ++ []) h') (fun E h' => some (.inr E, h'))) := zx_cv (x0 := 13) rfl rfl rfl rfl rfl ⟨Nat.le_of_ble_eq_true rfl, rfl⟩ (fun _ _ => rfl)
theorem zs_215_14 : zrun zP sv C 215 14 [l0] st h = zrun zP sv C 215 16 [l0] (.int (nI 8) :: st) h := zx_go rfl rfl
theorem zs_215_16 : zrun zP sv C 215 16 [l0] (.int y :: .int x :: st) h = if y < x then zrun zP sv C 215 23 [l0] st h else zrun zP sv C 215 19 [l0] st h := (zx_ic rfl rfl).trans zc4_if
theorem zs_215_19 : zrun zP sv C 215 19 [l0] st h = zrun zP sv C 215 20 [l0] (.int (nI 1) :: st) h := zx_go rfl rfl
theorem zs_215_20 : zrun zP sv C 215 20 [l0] st h = zrun zP sv C 215 24 [l0] st h := zx_go rfl rfl
theorem zs_215_23 : zrun zP sv C 215 23 [l0] st h = zrun zP sv C 215 24 [l0] (.int 0 :: st) h := zx_go rfl rfl
theorem zs_215_24 : zrun zP sv C 215 24 [l0] [.int x] h = zgd (zty 5 (.int x)) (some (.inl (some (.int x)), h)) := zx_rt rfl
theorem zs_216_0 : zrun zP sv C 216 0 [.val (.ref a), l1, l2] st h = zrun zP sv C 216 1 [.val (.ref a), l1, l2] (.ref a :: st) h := zx_go rfl rfl
theorem zs_216_1 : zrun zP sv C 216 1 [l0, l1, l2] (.ref a :: st) h = zfld (h.1 a) 13 9 (fun v => zrun zP sv C 216 4 [l0, l1, l2] (v :: st) h) := zx_getf rfl rfl
theorem zs_216_4 : zrun zP sv C 216 4 [.val (.ref a), l1, l2] st h = zrun zP sv C 216 5 [.val (.ref a), l1, l2] (.ref a :: st) h := zx_go rfl rfl
theorem zs_216_5 : zrun zP sv C 216 5 [l0, l1, l2] (.ref a :: st) h = zfld (h.1 a) 13 11 (fun v => zrun zP sv C 216 8 [l0, l1, l2] (v :: st) h) := zx_getf rfl rfl
theorem zs_216_8 : zrun zP sv C 216 8 [l0, .val (.int x), l2] st h = zrun zP sv C 216 9 [l0, .val (.int x), l2] (.int x :: st) h := zx_go rfl rfl
theorem zs_216_9 : zrun zP sv C 216 9 [l0, l1, l2] (.int y :: .int x :: .ref a :: st) h = zaset (h.1 a) 21 x (.int y) (fun c => zrun zP sv C 216 10 [l0, l1, l2] st (zup h a c)) := zx_ast rfl rfl
theorem zs_216_10 : zrun zP sv C 216 10 [.val (.ref a), l1, l2] st h = zrun zP sv C 216 11 [.val (.ref a), l1, l2] (.ref a :: st) h := zx_go rfl rfl
theorem zs_216_11 : zrun zP sv C 216 11 [l0, l1, l2] (.ref a :: st) h = zfld (h.1 a) 13 10 (fun v => zrun zP sv C 216 14 [l0, l1, l2] (v :: st) h) := zx_getf rfl rfl
theorem zs_216_14 : zrun zP sv C 216 14 [.val (.ref a), l1, l2] st h = zrun zP sv C 216 15 [.val (.ref a), l1, l2] (.ref a :: st) h := zx_go rfl rfl
theorem zs_216_15 : zrun zP sv C 216 15 [l0, l1, l2] (.ref a :: st) h = zrun zP sv C 216 16 [l0, l1, l2] (.ref a :: .ref a :: st) h := zx_go rfl rfl
theorem zs_216_16 : zrun zP sv C 216 16 [l0, l1, l2] (.ref a :: st) h = zfld (h.1 a) 13 11 (fun v => zrun zP sv C 216 19 [l0, l1, l2] (v :: st) h) := zx_getf rfl rfl
theorem zs_216_19 : zrun zP sv C 216 19 [l0, l1, l2] (.int x :: .ref b :: st) h = zrun zP sv C 216 20 [l0, l1, l2] (.int x :: .ref b :: .int x :: st) h := zx_go rfl rfl
theorem zs_216_20 : zrun zP sv C 216 20 [l0, l1, l2] st h = zrun zP sv C 216 21 [l0, l1, l2] (.int (nI 1) :: st) h := zx_go rfl rfl
theorem zs_216_21 : zrun zP sv C 216 21 [l0, l1, l2] (.int y :: .int x :: st) h = zrun zP sv C 216 22 [l0, l1, l2] (.int (x + y) :: st) h := zx_go rfl rfl
theorem zs_216_22 : zrun zP sv C 216 22 [l0, l1, l2] (.int x :: .ref a :: st) h = zpfd (h.1 a) 13 11 0 (.int x) (fun c => zrun zP sv C 216 25 [l0, l1, l2] st (zup h a c)) := zx_putf (x0 := 0) rfl rfl
theorem zs_216_25 : zrun zP sv C 216 25 [l0, l1, .val (.int x)] st h = zrun zP sv C 216 26 [l0, l1, .val (.int x)] (.int x :: st) h := zx_go rfl rfl
theorem zs_216_26 : zrun zP sv C 216 26 [l0, l1, l2] (.int y :: .int x :: .ref a :: st) h = zaset (h.1 a) 20 x (.int y) (fun c => zrun zP sv C 216 27 [l0, l1, l2] st (zup h a c)) := zx_ast rfl rfl
theorem zs_216_27 : zrun zP sv C 216 27 [l0, l1, l2] [] h = some (.inl none, h) := zx_end rfl rfl
theorem zs_217_0 : zrun zP sv C 217 0 [.val (.ref a), l1, l2, l3] st h = zrun zP sv C 217 1 [.val (.ref a), l1, l2, l3] (.ref a :: st) h := zx_go rfl rfl
theorem zs_217_1 : zrun zP sv C 217 1 [l0, .val (.int x), l2, l3] st h = zrun zP sv C 217 2 [l0, .val (.int x), l2, l3] (.int x :: st) h := zx_go rfl rfl
theorem zs_217_2 : zrun zP sv C 217 2 [l0, l1, l2, l3] [v1, .ref b] h = zrc (h.1 b) 13 (zbk (C 209 [.ref b, v1] h) (fun v h' => zrun zP sv C 217 5 [l0, l1, l2, l3] (v.toList ++ []) h') (fun E h' => some (.inr E, h'))) := zx_cv (x0 := 13) rfl rfl rfl rfl rfl ⟨Nat.le_of_ble_eq_true rfl, rfl⟩ (fun _ _ => rfl)
theorem zs_217_5 (hs : znw l2 = true) : zrun zP sv C 217 5 [l0, l1, l2, l3] (.int x :: st) h = zrun zP sv C 217 6 [l0, l1, .val (.int x), l3] st h := zx_st hs rfl rfl rfl rfl rfl rfl
theorem zs_217_6 : zrun zP sv C 217 6 [l0, .val (.int x), l2, l3] st h = zrun zP sv C 217 7 [l0, .val (.int x), l2, l3] (.int x :: st) h := zx_go rfl rfl
theorem zs_217_7 (hs : znw l3 = true) : zrun zP sv C 217 7 [l0, l1, l2, l3] (.int x :: st) h = zrun zP sv C 217 8 [l0, l1, l2, .val (.int x)] st h := zx_st hs rfl rfl rfl rfl rfl rfl
theorem zs_217_8 : zrun zP sv C 217 8 [l0, l1, l2, .val (.int x)] st h = zrun zP sv C 217 9 [l0, l1, l2, .val (.int x)] (.int x :: st) h := zx_go rfl rfl
theorem zs_217_9 : zrun zP sv C 217 9 [l0, l1, .val (.int x), l3] st h = zrun zP sv C 217 10 [l0, l1, .val (.int x), l3] (.int x :: st) h := zx_go rfl rfl
theorem zs_217_10 : zrun zP sv C 217 10 [l0, l1, l2, l3] (.int y :: .int x :: st) h = if x < y then zrun zP sv C 217 13 [l0, l1, l2, l3] st h else zrun zP sv C 217 35 [l0, l1, l2, l3] st h := (zx_ic rfl rfl).trans zc3_if
theorem zs_217_13 : zrun zP sv C 217 13 [.val (.ref a), l1, l2, l3] st h = zrun zP sv C 217 14 [.val (.ref a), l1, l2, l3] (.ref a :: st) h := zx_go rfl rfl
theorem zs_217_14 : zrun zP sv C 217 14 [.val (.ref a), l1, l2, l3] st h = zrun zP sv C 217 15 [.val (.ref a), l1, l2, l3] (.ref a :: st) h := zx_go rfl rfl
theorem zs_217_15 : zrun zP sv C 217 15 [l0, l1, l2, l3] (.ref a :: st) h = zfld (h.1 a) 13 6 (fun v => zrun zP sv C 217 18 [l0, l1, l2, l3] (v :: st) h) := zx_getf rfl rfl
theorem zs_217_18 : zrun zP sv C 217 18 [l0, l1, l2, .val (.int x)] st h = zrun zP sv C 217 19 [l0, l1, l2, .val (.int x)] (.int x :: st) h := zx_go rfl rfl
theorem zs_217_19 : zrun zP sv C 217 19 [l0, l1, l2, l3] (.int x :: .ref a :: st) h = zael (h.1 a) 21 x (fun v => zrun zP sv C 217 20 [l0, l1, l2, l3] (v :: st) h) := zx_ald rfl rfl
theorem zs_217_20 : zrun zP sv C 217 20 [.val (.ref a), l1, l2, l3] st h = zrun zP sv C 217 21 [.val (.ref a), l1, l2, l3] (.ref a :: st) h := zx_go rfl rfl
theorem zs_217_21 : zrun zP sv C 217 21 [l0, l1, l2, l3] (.ref a :: st) h = zfld (h.1 a) 13 7 (fun v => zrun zP sv C 217 24 [l0, l1, l2, l3] (v :: st) h) := zx_getf rfl rfl
theorem zs_217_24 : zrun zP sv C 217 24 [l0, l1, l2, .val (.int x)] st h = zrun zP sv C 217 25 [l0, l1, l2, .val (.int x)] (.int x :: st) h := zx_go rfl rfl
theorem zs_217_25 : zrun zP sv C 217 25 [l0, l1, l2, l3] (.int x :: .ref a :: st) h = zael (h.1 a) 20 x (fun v => zrun zP sv C 217 26 [l0, l1, l2, l3] (v :: st) h) := zx_ald rfl rfl
theorem zs_217_26 : zrun zP sv C 217 26 [l0, l1, l2, l3] [v2, v1, .ref b] h = zrc (h.1 b) 13 (zbk (C 216 [.ref b, v1, v2] h) (fun v h' => zrun zP sv C 217 29 [l0, l1, l2, l3] (v.toList ++ []) h') (fun E h' => some (.inr E, h'))) := zx_cv (x0 := 13) rfl rfl rfl rfl rfl ⟨Nat.le_of_ble_eq_true rfl, rfl⟩ (fun _ _ => rfl)
theorem zs_217_29 : zrun zP sv C 217 29 [l0, l1, l2, .val (.int x)] st h = zrun zP sv C 217 32 [l0, l1, l2, .val (.int (x + (nI 1)))] st h := zx_ii rfl rfl rfl rfl rfl
theorem zs_217_32 : zrun zP sv C 217 32 [l0, l1, l2, l3] st h = zrun zP sv C 217 8 [l0, l1, l2, l3] st h := zx_go rfl rfl
theorem zs_217_35 : zrun zP sv C 217 35 [l0, l1, .val (.int x), l3] st h = zrun zP sv C 217 36 [l0, l1, .val (.int x), l3] (.int x :: st) h := zx_go rfl rfl
theorem zs_217_36 : zrun zP sv C 217 36 [l0, l1, l2, l3] [.int x] h = some (.inl (some (.int x)), h) := zx_end rfl rfl
theorem zs_218_0 : zrun zP sv C 218 0 [l0, l1, l2, l3, l4] st h = zrun zP sv C 218 1 [l0, l1, l2, l3, l4] (.int 0 :: st) h := zx_go rfl rfl
theorem zs_218_1 (hs : znw l4 = true) : zrun zP sv C 218 1 [l0, l1, l2, l3, l4] (.int x :: st) h = zrun zP sv C 218 3 [l0, l1, l2, l3, .val (.int x)] st h := zx_st hs rfl rfl rfl rfl rfl rfl
theorem zs_218_3 : zrun zP sv C 218 3 [l0, l1, l2, l3, .val (.int x)] st h = zrun zP sv C 218 5 [l0, l1, l2, l3, .val (.int x)] (.int x :: st) h := zx_go rfl rfl
theorem zs_218_5 : zrun zP sv C 218 5 [l0, l1, l2, .val (.int x), l4] st h = zrun zP sv C 218 6 [l0, l1, l2, .val (.int x), l4] (.int x :: st) h := zx_go rfl rfl
theorem zs_218_6 : zrun zP sv C 218 6 [l0, l1, .val (.int x), l3, l4] st h = zrun zP sv C 218 7 [l0, l1, .val (.int x), l3, l4] (.int x :: st) h := zx_go rfl rfl
theorem zs_218_7 : zrun zP sv C 218 7 [l0, l1, l2, l3, l4] (.int y :: .int x :: st) h = zrun zP sv C 218 8 [l0, l1, l2, l3, l4] (.int (x - y) :: st) h := zx_go rfl rfl
theorem zs_218_8 : zrun zP sv C 218 8 [l0, l1, l2, l3, l4] (.int y :: .int x :: st) h = if x < y then zrun zP sv C 218 11 [l0, l1, l2, l3, l4] st h else zrun zP sv C 218 53 [l0, l1, l2, l3, l4] st h := (zx_ic rfl rfl).trans zc3_if
theorem zs_218_11 : zrun zP sv C 218 11 [.val (.ref a), l1, l2, l3, l4] st h = zrun zP sv C 218 12 [.val (.ref a), l1, l2, l3, l4] (.ref a :: st) h := zx_go rfl rfl
theorem zs_218_12 : zrun zP sv C 218 12 [l0, l1, l2, l3, l4] (.ref a :: st) h = zfld (h.1 a) 13 9 (fun v => zrun zP sv C 218 15 [l0, l1, l2, l3, l4] (v :: st) h) := zx_getf rfl rfl
theorem zs_218_15 : zrun zP sv C 218 15 [l0, .val (.int x), l2, l3, l4] st h = zrun zP sv C 218 16 [l0, .val (.int x), l2, l3, l4] (.int x :: st) h := zx_go rfl rfl
theorem zs_218_16 : zrun zP sv C 218 16 [l0, l1, l2, l3, .val (.int x)] st h = zrun zP sv C 218 18 [l0, l1, l2, l3, .val (.int x)] (.int x :: st) h := zx_go rfl rfl
theorem zs_218_18 : zrun zP sv C 218 18 [l0, l1, l2, l3, l4] (.int y :: .int x :: st) h = zrun zP sv C 218 19 [l0, l1, l2, l3, l4] (.int (x + y) :: st) h := zx_go rfl rfl
theorem zs_218_19 : zrun zP sv C 218 19 [.val (.ref a), l1, l2, l3, l4] st h = zrun zP sv C 218 20 [.val (.ref a), l1, l2, l3, l4] (.ref a :: st) h := zx_go rfl rfl
theorem zs_218_20 : zrun zP sv C 218 20 [l0, l1, l2, l3, l4] (.ref a :: st) h = zfld (h.1 a) 13 9 (fun v => zrun zP sv C 218 23 [l0, l1, l2, l3, l4] (v :: st) h) := zx_getf rfl rfl
theorem zs_218_23 : zrun zP sv C 218 23 [l0, l1, .val (.int x), l3, l4] st h = zrun zP sv C 218 24 [l0, l1, .val (.int x), l3, l4] (.int x :: st) h := zx_go rfl rfl
theorem zs_218_24 : zrun zP sv C 218 24 [l0, l1, l2, l3, .val (.int x)] st h = zrun zP sv C 218 26 [l0, l1, l2, l3, .val (.int x)] (.int x :: st) h := zx_go rfl rfl
theorem zs_218_26 : zrun zP sv C 218 26 [l0, l1, l2, l3, l4] (.int y :: .int x :: st) h = zrun zP sv C 218 27 [l0, l1, l2, l3, l4] (.int (x + y) :: st) h := zx_go rfl rfl
theorem zs_218_27 : zrun zP sv C 218 27 [l0, l1, l2, l3, l4] (.int x :: .ref a :: st) h = zael (h.1 a) 21 x (fun v => zrun zP sv C 218 28 [l0, l1, l2, l3, l4] (v :: st) h) := zx_ald rfl rfl
theorem zs_218_28 : zrun zP sv C 218 28 [l0, l1, l2, l3, l4] (.int y :: .int x :: .ref a :: st) h = zaset (h.1 a) 21 x (.int y) (fun c => zrun zP sv C 218 29 [l0, l1, l2, l3, l4] st (zup h a c)) := zx_ast rfl rfl
theorem zs_218_29 : zrun zP sv C 218 29 [.val (.ref a), l1, l2, l3, l4] st h = zrun zP sv C 218 30 [.val (.ref a), l1, l2, l3, l4] (.ref a :: st) h := zx_go rfl rfl
theorem zs_218_30 : zrun zP sv C 218 30 [l0, l1, l2, l3, l4] (.ref a :: st) h = zfld (h.1 a) 13 10 (fun v => zrun zP sv C 218 33 [l0, l1, l2, l3, l4] (v :: st) h) := zx_getf rfl rfl
theorem zs_218_33 : zrun zP sv C 218 33 [l0, .val (.int x), l2, l3, l4] st h = zrun zP sv C 218 34 [l0, .val (.int x), l2, l3, l4] (.int x :: st) h := zx_go rfl rfl
theorem zs_218_34 : zrun zP sv C 218 34 [l0, l1, l2, l3, .val (.int x)] st h = zrun zP sv C 218 36 [l0, l1, l2, l3, .val (.int x)] (.int x :: st) h := zx_go rfl rfl
theorem zs_218_36 : zrun zP sv C 218 36 [l0, l1, l2, l3, l4] (.int y :: .int x :: st) h = zrun zP sv C 218 37 [l0, l1, l2, l3, l4] (.int (x + y) :: st) h := zx_go rfl rfl
theorem zs_218_37 : zrun zP sv C 218 37 [.val (.ref a), l1, l2, l3, l4] st h = zrun zP sv C 218 38 [.val (.ref a), l1, l2, l3, l4] (.ref a :: st) h := zx_go rfl rfl
theorem zs_218_38 : zrun zP sv C 218 38 [l0, l1, l2, l3, l4] (.ref a :: st) h = zfld (h.1 a) 13 10 (fun v => zrun zP sv C 218 41 [l0, l1, l2, l3, l4] (v :: st) h) := zx_getf rfl rfl
theorem zs_218_41 : zrun zP sv C 218 41 [l0, l1, .val (.int x), l3, l4] st h = zrun zP sv C 218 42 [l0, l1, .val (.int x), l3, l4] (.int x :: st) h := zx_go rfl rfl
theorem zs_218_42 : zrun zP sv C 218 42 [l0, l1, l2, l3, .val (.int x)] st h = zrun zP sv C 218 44 [l0, l1, l2, l3, .val (.int x)] (.int x :: st) h := zx_go rfl rfl
theorem zs_218_44 : zrun zP sv C 218 44 [l0, l1, l2, l3, l4] (.int y :: .int x :: st) h = zrun zP sv C 218 45 [l0, l1, l2, l3, l4] (.int (x + y) :: st) h := zx_go rfl rfl
theorem zs_218_45 : zrun zP sv C 218 45 [l0, l1, l2, l3, l4] (.int x :: .ref a :: st) h = zael (h.1 a) 20 x (fun v => zrun zP sv C 218 46 [l0, l1, l2, l3, l4] (v :: st) h) := zx_ald rfl rfl
theorem zs_218_46 : zrun zP sv C 218 46 [l0, l1, l2, l3, l4] (.int y :: .int x :: .ref a :: st) h = zaset (h.1 a) 20 x (.int y) (fun c => zrun zP sv C 218 47 [l0, l1, l2, l3, l4] st (zup h a c)) := zx_ast rfl rfl
theorem zs_218_47 : zrun zP sv C 218 47 [l0, l1, l2, l3, .val (.int x)] st h = zrun zP sv C 218 50 [l0, l1, l2, l3, .val (.int (x + (nI 1)))] st h := zx_ii rfl rfl rfl rfl rfl
theorem zs_218_50 : zrun zP sv C 218 50 [l0, l1, l2, l3, l4] st h = zrun zP sv C 218 3 [l0, l1, l2, l3, l4] st h := zx_go rfl rfl
theorem zs_218_53 : zrun zP sv C 218 53 [.val (.ref a), l1, l2, l3, l4] st h = zrun zP sv C 218 54 [.val (.ref a), l1, l2, l3, l4] (.ref a :: st) h := zx_go rfl rfl
theorem zs_218_54 : zrun zP sv C 218 54 [l0, .val (.int x), l2, l3, l4] st h = zrun zP sv C 218 55 [l0, .val (.int x), l2, l3, l4] (.int x :: st) h := zx_go rfl rfl
theorem zs_218_55 : zrun zP sv C 218 55 [l0, l1, l2, .val (.int x), l4] st h = zrun zP sv C 218 56 [l0, l1, l2, .val (.int x), l4] (.int x :: st) h := zx_go rfl rfl
theorem zs_218_56 : zrun zP sv C 218 56 [l0, l1, l2, l3, l4] (.int y :: .int x :: st) h = zrun zP sv C 218 57 [l0, l1, l2, l3, l4] (.int (x + y) :: st) h := zx_go rfl rfl
theorem zs_218_57 : zrun zP sv C 218 57 [l0, l1, .val (.int x), l3, l4] st h = zrun zP sv C 218 58 [l0, l1, .val (.int x), l3, l4] (.int x :: st) h := zx_go rfl rfl
theorem zs_218_58 : zrun zP sv C 218 58 [l0, l1, l2, l3, l4] (.int y :: .int x :: st) h = zrun zP sv C 218 59 [l0, l1, l2, l3, l4] (.int (x - y) :: st) h := zx_go rfl rfl
theorem zs_218_59 : zrun zP sv C 218 59 [l0, l1, l2, l3, l4] (.int x :: .ref a :: st) h = zpfd (h.1 a) 13 11 0 (.int x) (fun c => zrun zP sv C 218 62 [l0, l1, l2, l3, l4] st (zup h a c)) := zx_putf (x0 := 0) rfl rfl
theorem zs_218_62 : zrun zP sv C 218 62 [l0, l1, l2, l3, l4] [] h = some (.inl none, h) := zx_end rfl rfl
theorem zs_219_0 : zrun zP sv C 219 0 [.val (.ref a), l1, l2] st h = zrun zP sv C 219 1 [.val (.ref a), l1, l2] (.ref a :: st) h := zx_go rfl rfl
theorem zs_219_1 : zrun zP sv C 219 1 [l0, .val (.int x), l2] st h = zrun zP sv C 219 2 [l0, .val (.int x), l2] (.int x :: st) h := zx_go rfl rfl
theorem zs_219_2 : zrun zP sv C 219 2 [l0, l1, l2] (.int x :: .ref a :: st) h = zpfd (h.1 a) 13 11 0 (.int x) (fun c => zrun zP sv C 219 5 [l0, l1, l2] st (zup h a c)) := zx_putf (x0 := 0) rfl rfl
theorem zs_219_5 : zrun zP sv C 219 5 [.val (.ref a), l1, l2] st h = zrun zP sv C 219 6 [.val (.ref a), l1, l2] (.ref a :: st) h := zx_go rfl rfl
theorem zs_219_6 : zrun zP sv C 219 6 [l0, l1, l2] st h = zrun zP sv C 219 8 [l0, l1, l2] (.int (nI 99) :: st) h := zx_go rfl rfl
theorem zs_219_8 : zrun zP sv C 219 8 [l0, l1, .val (.int x)] st h = zrun zP sv C 219 9 [l0, l1, .val (.int x)] (.int x :: st) h := zx_go rfl rfl
theorem zs_219_9 : zrun zP sv C 219 9 [l0, l1, l2] [v2, v1, .ref b] h = zrc (h.1 b) 13 (zbk (C 216 [.ref b, v1, v2] h) (fun v h' => zrun zP sv C 219 12 [l0, l1, l2] (v.toList ++ []) h') (fun E h' => some (.inr E, h'))) := zx_cv (x0 := 13) rfl rfl rfl rfl rfl ⟨Nat.le_of_ble_eq_true rfl, rfl⟩ (fun _ _ => rfl)
theorem zs_219_12 : zrun zP sv C 219 12 [l0, l1, l2] [] h = some (.inl none, h) := zx_end rfl rfl
theorem zs_220_0 : zrun zP sv C 220 0 [.val (.ref a), l1, l2] st h = zrun zP sv C 220 1 [.val (.ref a), l1, l2] (.ref a :: st) h := zx_go rfl rfl
theorem zs_220_1 : zrun zP sv C 220 1 [l0, l1, l2] (.ref a :: st) h = zfld (h.1 a) 13 9 (fun v => zrun zP sv C 220 4 [l0, l1, l2] (v :: st) h) := zx_getf rfl rfl
theorem zs_220_4 : zrun zP sv C 220 4 [l0, .val (.int x), l2] st h = zrun zP sv C 220 5 [l0, .val (.int x), l2] (.int x :: st) h := zx_go rfl rfl
theorem zs_220_5 : zrun zP sv C 220 5 [l0, l1, l2] (.int x :: .ref a :: st) h = zael (h.1 a) 21 x (fun v => zrun zP sv C 220 6 [l0, l1, l2] (v :: st) h) := zx_ald rfl rfl
theorem zs_220_6 : zrun zP sv C 220 6 [l0, l1, l2] st h = zrun zP sv C 220 8 [l0, l1, l2] (.int (nI 99) :: st) h := zx_go rfl rfl
theorem zs_220_8 : zrun zP sv C 220 8 [l0, l1, l2] (.int y :: .int x :: st) h = if x = y then zrun zP sv C 220 11 [l0, l1, l2] st h else zrun zP sv C 220 25 [l0, l1, l2] st h := (zx_ic rfl rfl).trans zc1_if
theorem zs_220_11 : zrun zP sv C 220 11 [.val (.ref a), l1, l2] st h = zrun zP sv C 220 12 [.val (.ref a), l1, l2] (.ref a :: st) h := zx_go rfl rfl
theorem zs_220_12 : zrun zP sv C 220 12 [l0, l1, l2] (.ref a :: st) h = zfld (h.1 a) 13 10 (fun v => zrun zP sv C 220 15 [l0, l1, l2] (v :: st) h) := zx_getf rfl rfl
theorem zs_220_15 : zrun zP sv C 220 15 [l0, .val (.int x), l2] st h = zrun zP sv C 220 16 [l0, .val (.int x), l2] (.int x :: st) h := zx_go rfl rfl
theorem zs_220_16 : zrun zP sv C 220 16 [l0, l1, l2] (.int x :: .ref a :: st) h = zael (h.1 a) 20 x (fun v => zrun zP sv C 220 17 [l0, l1, l2] (v :: st) h) := zx_ald rfl rfl
theorem zs_220_17 : zrun zP sv C 220 17 [l0, l1, .val (.int x)] st h = zrun zP sv C 220 18 [l0, l1, .val (.int x)] (.int x :: st) h := zx_go rfl rfl
theorem zs_220_18 : zrun zP sv C 220 18 [l0, l1, l2] (.int y :: .int x :: st) h = if x = y then zrun zP sv C 220 21 [l0, l1, l2] st h else zrun zP sv C 220 25 [l0, l1, l2] st h := (zx_ic rfl rfl).trans zc1_if
theorem zs_220_21 : zrun zP sv C 220 21 [l0, l1, l2] st h = zrun zP sv C 220 22 [l0, l1, l2] (.int (nI 1) :: st) h := zx_go rfl rfl
theorem zs_220_22 : zrun zP sv C 220 22 [l0, l1, l2] st h = zrun zP sv C 220 26 [l0, l1, l2] st h := zx_go rfl rfl
theorem zs_220_25 : zrun zP sv C 220 25 [l0, l1, l2] st h = zrun zP sv C 220 26 [l0, l1, l2] (.int 0 :: st) h := zx_go rfl rfl
theorem zs_220_26 : zrun zP sv C 220 26 [l0, l1, l2] [.int x] h = zgd (zty 5 (.int x)) (some (.inl (some (.int x)), h)) := zx_rt rfl
theorem zs_221_0 : zrun zP sv C 221 0 [l0, l1, .val (.int x), l3, l4] st h = zrun zP sv C 221 1 [l0, l1, .val (.int x), l3, l4] (.int x :: st) h := zx_go rfl rfl
theorem zs_221_1 : zrun zP sv C 221 1 [l0, .val (.int x), l2, l3, l4] st h = zrun zP sv C 221 2 [l0, .val (.int x), l2, l3, l4] (.int x :: st) h := zx_go rfl rfl
theorem zs_221_2 : zrun zP sv C 221 2 [l0, l1, l2, l3, l4] (.int y :: .int x :: st) h = zrun zP sv C 221 3 [l0, l1, l2, l3, l4] (.int (x - y) :: st) h := zx_go rfl rfl
theorem zs_221_3 : zrun zP sv C 221 3 [.val (.ref a), l1, l2, l3, l4] st h = zrun zP sv C 221 4 [.val (.ref a), l1, l2, l3, l4] (.ref a :: st) h := zx_go rfl rfl
theorem zs_221_4 : zrun zP sv C 221 4 [l0, l1, l2, l3, l4] (.ref a :: st) h = zfld (h.1 a) 13 11 (fun v => zrun zP sv C 221 7 [l0, l1, l2, l3, l4] (v :: st) h) := zx_getf rfl rfl
theorem zs_221_7 : zrun zP sv C 221 7 [l0, l1, .val (.int x), l3, l4] st h = zrun zP sv C 221 8 [l0, l1, .val (.int x), l3, l4] (.int x :: st) h := zx_go rfl rfl
theorem zs_221_8 : zrun zP sv C 221 8 [l0, l1, l2, l3, l4] (.int y :: .int x :: st) h = zrun zP sv C 221 9 [l0, l1, l2, l3, l4] (.int (x - y) :: st) h := zx_go rfl rfl
theorem zs_221_9 : zrun zP sv C 221 9 [l0, l1, l2, l3, l4] (.int y :: .int x :: st) h = if x = y then zrun zP sv C 221 12 [l0, l1, l2, l3, l4] st h else zrun zP sv C 221 16 [l0, l1, l2, l3, l4] st h := (zx_ic rfl rfl).trans zc1_if
theorem zs_221_12 : zrun zP sv C 221 12 [l0, l1, l2, l3, l4] st h = zrun zP sv C 221 13 [l0, l1, l2, l3, l4] (.int (nI 1) :: st) h := zx_go rfl rfl
theorem zs_221_13 : zrun zP sv C 221 13 [l0, l1, l2, l3, l4] st h = zrun zP sv C 221 17 [l0, l1, l2, l3, l4] st h := zx_go rfl rfl
theorem zs_221_16 : zrun zP sv C 221 16 [l0, l1, l2, l3, l4] st h = zrun zP sv C 221 17 [l0, l1, l2, l3, l4] (.int 0 :: st) h := zx_go rfl rfl
theorem zs_221_17 (hs : znw l3 = true) : zrun zP sv C 221 17 [l0, l1, l2, l3, l4] (.int x :: st) h = zrun zP sv C 221 18 [l0, l1, l2, .val (.int x), l4] st h := zx_st hs rfl rfl rfl rfl rfl rfl
theorem zs_221_18 : zrun zP sv C 221 18 [l0, l1, l2, l3, l4] st h = zrun zP sv C 221 19 [l0, l1, l2, l3, l4] (.int 0 :: st) h := zx_go rfl rfl
theorem zs_221_19 (hs : znw l4 = true) : zrun zP sv C 221 19 [l0, l1, l2, l3, l4] (.int x :: st) h = zrun zP sv C 221 21 [l0, l1, l2, l3, .val (.int x)] st h := zx_st hs rfl rfl rfl rfl rfl rfl
theorem zs_221_21 : zrun zP sv C 221 21 [l0, l1, l2, l3, .val (.int x)] st h = zrun zP sv C 221 23 [l0, l1, l2, l3, .val (.int x)] (.int x :: st) h := zx_go rfl rfl
theorem zs_221_23 : zrun zP sv C 221 23 [.val (.ref a), l1, l2, l3, l4] st h = zrun zP sv C 221 24 [.val (.ref a), l1, l2, l3, l4] (.ref a :: st) h := zx_go rfl rfl
theorem zs_221_24 : zrun zP sv C 221 24 [l0, l1, l2, l3, l4] (.ref a :: st) h = zfld (h.1 a) 13 11 (fun v => zrun zP sv C 221 27 [l0, l1, l2, l3, l4] (v :: st) h) := zx_getf rfl rfl
theorem zs_221_27 : zrun zP sv C 221 27 [l0, l1, .val (.int x), l3, l4] st h = zrun zP sv C 221 28 [l0, l1, .val (.int x), l3, l4] (.int x :: st) h := zx_go rfl rfl
theorem zs_221_28 : zrun zP sv C 221 28 [l0, l1, l2, l3, l4] (.int y :: .int x :: st) h = zrun zP sv C 221 29 [l0, l1, l2, l3, l4] (.int (x - y) :: st) h := zx_go rfl rfl
theorem zs_221_29 : zrun zP sv C 221 29 [l0, l1, l2, l3, l4] (.int y :: .int x :: st) h = if x < y then zrun zP sv C 221 32 [l0, l1, l2, l3, l4] st h else zrun zP sv C 221 90 [l0, l1, l2, l3, l4] st h := (zx_ic rfl rfl).trans zc3_if
theorem zs_221_32 : zrun zP sv C 221 32 [l0, l1, l2, .val (.int x), l4] st h = zrun zP sv C 221 33 [l0, l1, l2, .val (.int x), l4] (.int x :: st) h := zx_go rfl rfl
theorem zs_221_33 : zrun zP sv C 221 33 [l0, l1, l2, l3, l4] (.int x :: st) h = if x = 0 then zrun zP sv C 221 90 [l0, l1, l2, l3, l4] st h else zrun zP sv C 221 36 [l0, l1, l2, l3, l4] st h := (zx_if rfl rfl).trans zc0_if
theorem zs_221_36 : zrun zP sv C 221 36 [.val (.ref a), l1, l2, l3, l4] st h = zrun zP sv C 221 37 [.val (.ref a), l1, l2, l3, l4] (.ref a :: st) h := zx_go rfl rfl
theorem zs_221_37 : zrun zP sv C 221 37 [l0, l1, l2, l3, l4] (.ref a :: st) h = zfld (h.1 a) 13 9 (fun v => zrun zP sv C 221 40 [l0, l1, l2, l3, l4] (v :: st) h) := zx_getf rfl rfl
theorem zs_221_40 : zrun zP sv C 221 40 [l0, .val (.int x), l2, l3, l4] st h = zrun zP sv C 221 41 [l0, .val (.int x), l2, l3, l4] (.int x :: st) h := zx_go rfl rfl
theorem zs_221_41 : zrun zP sv C 221 41 [l0, l1, l2, l3, .val (.int x)] st h = zrun zP sv C 221 43 [l0, l1, l2, l3, .val (.int x)] (.int x :: st) h := zx_go rfl rfl
theorem zs_221_43 : zrun zP sv C 221 43 [l0, l1, l2, l3, l4] (.int y :: .int x :: st) h = zrun zP sv C 221 44 [l0, l1, l2, l3, l4] (.int (x + y) :: st) h := zx_go rfl rfl
theorem zs_221_44 : zrun zP sv C 221 44 [l0, l1, l2, l3, l4] (.int x :: .ref a :: st) h = zael (h.1 a) 21 x (fun v => zrun zP sv C 221 45 [l0, l1, l2, l3, l4] (v :: st) h) := zx_ald rfl rfl
theorem zs_221_45 : zrun zP sv C 221 45 [.val (.ref a), l1, l2, l3, l4] st h = zrun zP sv C 221 46 [.val (.ref a), l1, l2, l3, l4] (.ref a :: st) h := zx_go rfl rfl
theorem zs_221_46 : zrun zP sv C 221 46 [l0, l1, l2, l3, l4] (.ref a :: st) h = zfld (h.1 a) 13 9 (fun v => zrun zP sv C 221 49 [l0, l1, l2, l3, l4] (v :: st) h) := zx_getf rfl rfl
theorem zs_221_49 : zrun zP sv C 221 49 [l0, l1, .val (.int x), l3, l4] st h = zrun zP sv C 221 50 [l0, l1, .val (.int x), l3, l4] (.int x :: st) h := zx_go rfl rfl
theorem zs_221_50 : zrun zP sv C 221 50 [l0, l1, l2, l3, .val (.int x)] st h = zrun zP sv C 221 52 [l0, l1, l2, l3, .val (.int x)] (.int x :: st) h := zx_go rfl rfl
theorem zs_221_52 : zrun zP sv C 221 52 [l0, l1, l2, l3, l4] (.int y :: .int x :: st) h = zrun zP sv C 221 53 [l0, l1, l2, l3, l4] (.int (x + y) :: st) h := zx_go rfl rfl
theorem zs_221_53 : zrun zP sv C 221 53 [l0, l1, l2, l3, l4] (.int x :: .ref a :: st) h = zael (h.1 a) 21 x (fun v => zrun zP sv C 221 54 [l0, l1, l2, l3, l4] (v :: st) h) := zx_ald rfl rfl
theorem zs_221_54 : zrun zP sv C 221 54 [l0, l1, l2, l3, l4] (.int y :: .int x :: st) h = if x = y then zrun zP sv C 221 57 [l0, l1, l2, l3, l4] st h else zrun zP sv C 221 82 [l0, l1, l2, l3, l4] st h := (zx_ic rfl rfl).trans zc1_if
theorem zs_221_57 : zrun zP sv C 221 57 [.val (.ref a), l1, l2, l3, l4] st h = zrun zP sv C 221 58 [.val (.ref a), l1, l2, l3, l4] (.ref a :: st) h := zx_go rfl rfl
theorem zs_221_58 : zrun zP sv C 221 58 [l0, l1, l2, l3, l4] (.ref a :: st) h = zfld (h.1 a) 13 10 (fun v => zrun zP sv C 221 61 [l0, l1, l2, l3, l4] (v :: st) h) := zx_getf rfl rfl
theorem zs_221_61 : zrun zP sv C 221 61 [l0, .val (.int x), l2, l3, l4] st h = zrun zP sv C 221 62 [l0, .val (.int x), l2, l3, l4] (.int x :: st) h := zx_go rfl rfl
theorem zs_221_62 : zrun zP sv C 221 62 [l0, l1, l2, l3, .val (.int x)] st h = zrun zP sv C 221 64 [l0, l1, l2, l3, .val (.int x)] (.int x :: st) h := zx_go rfl rfl
theorem zs_221_64 : zrun zP sv C 221 64 [l0, l1, l2, l3, l4] (.int y :: .int x :: st) h = zrun zP sv C 221 65 [l0, l1, l2, l3, l4] (.int (x + y) :: st) h := zx_go rfl rfl
theorem zs_221_65 : zrun zP sv C 221 65 [l0, l1, l2, l3, l4] (.int x :: .ref a :: st) h = zael (h.1 a) 20 x (fun v => zrun zP sv C 221 66 [l0, l1, l2, l3, l4] (v :: st) h) := zx_ald rfl rfl
theorem zs_221_66 : zrun zP sv C 221 66 [.val (.ref a), l1, l2, l3, l4] st h = zrun zP sv C 221 67 [.val (.ref a), l1, l2, l3, l4] (.ref a :: st) h := zx_go rfl rfl
theorem zs_221_67 : zrun zP sv C 221 67 [l0, l1, l2, l3, l4] (.ref a :: st) h = zfld (h.1 a) 13 10 (fun v => zrun zP sv C 221 70 [l0, l1, l2, l3, l4] (v :: st) h) := zx_getf rfl rfl
theorem zs_221_70 : zrun zP sv C 221 70 [l0, l1, .val (.int x), l3, l4] st h = zrun zP sv C 221 71 [l0, l1, .val (.int x), l3, l4] (.int x :: st) h := zx_go rfl rfl
theorem zs_221_71 : zrun zP sv C 221 71 [l0, l1, l2, l3, .val (.int x)] st h = zrun zP sv C 221 73 [l0, l1, l2, l3, .val (.int x)] (.int x :: st) h := zx_go rfl rfl
theorem zs_221_73 : zrun zP sv C 221 73 [l0, l1, l2, l3, l4] (.int y :: .int x :: st) h = zrun zP sv C 221 74 [l0, l1, l2, l3, l4] (.int (x + y) :: st) h := zx_go rfl rfl
theorem zs_221_74 : zrun zP sv C 221 74 [l0, l1, l2, l3, l4] (.int x :: .ref a :: st) h = zael (h.1 a) 20 x (fun v => zrun zP sv C 221 75 [l0, l1, l2, l3, l4] (v :: st) h) := zx_ald rfl rfl
theorem zs_221_75 : zrun zP sv C 221 75 [l0, l1, l2, l3, l4] (.int y :: .int x :: st) h = if x = y then zrun zP sv C 221 78 [l0, l1, l2, l3, l4] st h else zrun zP sv C 221 82 [l0, l1, l2, l3, l4] st h := (zx_ic rfl rfl).trans zc1_if
theorem zs_221_78 : zrun zP sv C 221 78 [l0, l1, l2, l3, l4] st h = zrun zP sv C 221 79 [l0, l1, l2, l3, l4] (.int (nI 1) :: st) h := zx_go rfl rfl
theorem zs_221_79 : zrun zP sv C 221 79 [l0, l1, l2, l3, l4] st h = zrun zP sv C 221 83 [l0, l1, l2, l3, l4] st h := zx_go rfl rfl
theorem zs_221_82 : zrun zP sv C 221 82 [l0, l1, l2, l3, l4] st h = zrun zP sv C 221 83 [l0, l1, l2, l3, l4] (.int 0 :: st) h := zx_go rfl rfl
theorem zs_221_83 (hs : znw l3 = true) : zrun zP sv C 221 83 [l0, l1, l2, l3, l4] (.int x :: st) h = zrun zP sv C 221 84 [l0, l1, l2, .val (.int x), l4] st h := zx_st hs rfl rfl rfl rfl rfl rfl
theorem zs_221_84 : zrun zP sv C 221 84 [l0, l1, l2, l3, .val (.int x)] st h = zrun zP sv C 221 87 [l0, l1, l2, l3, .val (.int (x + (nI 1)))] st h := zx_ii rfl rfl rfl rfl rfl
theorem zs_221_87 : zrun zP sv C 221 87 [l0, l1, l2, l3, l4] st h = zrun zP sv C 221 21 [l0, l1, l2, l3, l4] st h := zx_go rfl rfl
theorem zs_221_90 : zrun zP sv C 221 90 [l0, l1, l2, .val (.int x), l4] st h = zrun zP sv C 221 91 [l0, l1, l2, .val (.int x), l4] (.int x :: st) h := zx_go rfl rfl
theorem zs_221_91 : zrun zP sv C 221 91 [l0, l1, l2, l3, l4] [.int x] h = zgd (zty 5 (.int x)) (some (.inl (some (.int x)), h)) := zx_rt rfl
theorem zs_222_0 : zrun zP sv C 222 0 [.val (.ref a), l1, l2, l3, l4, l5] st h = zrun zP sv C 222 1 [.val (.ref a), l1, l2, l3, l4, l5] (.ref a :: st) h := zx_go (zq_222_0 0 (Nat.le_of_ble_eq_true rfl) (Nat.le_of_ble_eq_true rfl)) rfl
theorem zs_222_1 : zrun zP sv C 222 1 [l0, l1, l2, l3, l4, l5] (.ref a :: st) h = zfld (h.1 a) 13 11 (fun v => zrun zP sv C 222 4 [l0, l1, l2, l3, l4, l5] (v :: st) h) := zx_getf (zq_222_0 1 (Nat.le_of_ble_eq_true rfl) (Nat.le_of_ble_eq_true rfl)) rfl
theorem zs_222_4 (hs : znw l2 = true) : zrun zP sv C 222 4 [l0, l1, l2, l3, l4, l5] (.int x :: st) h = zrun zP sv C 222 5 [l0, l1, .val (.int x), l3, l4, l5] st h := zx_st hs (zq_222_0 4 (Nat.le_of_ble_eq_true rfl) (Nat.le_of_ble_eq_true rfl)) rfl rfl rfl rfl rfl
theorem zs_222_5 : zrun zP sv C 222 5 [.val (.ref a), l1, l2, l3, l4, l5] st h = zrun zP sv C 222 6 [.val (.ref a), l1, l2, l3, l4, l5] (.ref a :: st) h := zx_go (zq_222_0 5 (Nat.le_of_ble_eq_true rfl) (Nat.le_of_ble_eq_true rfl)) rfl
theorem zs_222_6 : zrun zP sv C 222 6 [l0, l1, l2, l3, l4, l5] (.ref a :: st) h = zfld (h.1 a) 13 6 (fun v => zrun zP sv C 222 9 [l0, l1, l2, l3, l4, l5] (v :: st) h) := zx_getf (zq_222_0 6 (Nat.le_of_ble_eq_true rfl) (Nat.le_of_ble_eq_true rfl)) rfl
theorem zs_222_9 : zrun zP sv C 222 9 [l0, .val (.int x), l2, l3, l4, l5] st h = zrun zP sv C 222 10 [l0, .val (.int x), l2, l3, l4, l5] (.int x :: st) h := zx_go (zq_222_0 9 (Nat.le_of_ble_eq_true rfl) (Nat.le_of_ble_eq_true rfl)) rfl
theorem zs_222_10 : zrun zP sv C 222 10 [l0, l1, l2, l3, l4, l5] (.int x :: .ref a :: st) h = zael (h.1 a) 21 x (fun v => zrun zP sv C 222 11 [l0, l1, l2, l3, l4, l5] (v :: st) h) := zx_ald (zq_222_0 10 (Nat.le_of_ble_eq_true rfl) (Nat.le_of_ble_eq_true rfl)) rfl
theorem zs_222_11 (hs : znw l3 = true) : zrun zP sv C 222 11 [l0, l1, l2, l3, l4, l5] (.int x :: st) h = zrun zP sv C 222 12 [l0, l1, l2, .val (.int x), l4, l5] st h := zx_st hs (zq_222_0 11 (Nat.le_of_ble_eq_true rfl) (Nat.le_of_ble_eq_true rfl)) rfl rfl rfl rfl rfl
theorem zs_222_12 : zrun zP sv C 222 12 [.val (.ref a), l1, l2, l3, l4, l5] st h = zrun zP sv C 222 13 [.val (.ref a), l1, l2, l3, l4, l5] (.ref a :: st) h := zx_go (zq_222_0 12 (Nat.le_of_ble_eq_true rfl) (Nat.le_of_ble_eq_true rfl)) rfl
theorem zs_222_13 : zrun zP sv C 222 13 [l0, l1, l2, .val (.int x), l4, l5] st h = zrun zP sv C 222 14 [l0, l1, l2, .val (.int x), l4, l5] (.int x :: st) h := zx_go (zq_222_0 13 (Nat.le_of_ble_eq_true rfl) (Nat.le_of_ble_eq_true rfl)) rfl
theorem zs_222_14 : zrun zP sv C 222 14 [.val (.ref a), l1, l2, l3, l4, l5] st h = zrun zP sv C 222 15 [.val (.ref a), l1, l2, l3, l4, l5] (.ref a :: st) h := zx_go (zq_222_0 14 (Nat.le_of_ble_eq_true rfl) (Nat.le_of_ble_eq_true rfl)) rfl
theorem zs_222_15 : zrun zP sv C 222 15 [l0, l1, l2, l3, l4, l5] (.ref a :: st) h = zfld (h.1 a) 13 7 (fun v => zrun zP sv C 222 18 [l0, l1, l2, l3, l4, l5] (v :: st) h) := zx_getf (zq_222_0 15 (Nat.le_of_ble_eq_true rfl) (Nat.le_of_ble_eq_true rfl)) rfl
theorem zs_222_18 : zrun zP sv C 222 18 [l0, .val (.int x), l2, l3, l4, l5] st h = zrun zP sv C 222 19 [l0, .val (.int x), l2, l3, l4, l5] (.int x :: st) h := zx_go (zq_222_0 18 (Nat.le_of_ble_eq_true rfl) (Nat.le_of_ble_eq_true rfl)) rfl
theorem zs_222_19 : zrun zP sv C 222 19 [l0, l1, l2, l3, l4, l5] (.int x :: .ref a :: st) h = zael (h.1 a) 20 x (fun v => zrun zP sv C 222 20 [l0, l1, l2, l3, l4, l5] (v :: st) h) := zx_ald (zq_222_0 19 (Nat.le_of_ble_eq_true rfl) (Nat.le_of_ble_eq_true rfl)) rfl
theorem zs_222_20 : zrun zP sv C 222 20 [l0, l1, l2, l3, l4, l5] [v2, v1, .ref b] h = zrc (h.1 b) 13 (zbk (C 216 [.ref b, v1, v2] h) (fun v h' => zrun zP sv C 222 23 [l0, l1, l2, l3, l4, l5] (v.toList ++ []) h') (fun E h' => some (.inr E, h'))) := zx_cv (x0 := 13) (zq_222_0 20 (Nat.le_of_ble_eq_true rfl) (Nat.le_of_ble_eq_true rfl)) rfl rfl rfl rfl ⟨Nat.le_of_ble_eq_true rfl, rfl⟩ (fun _ _ => rfl)
theorem zs_222_23 : zrun zP sv C 222 23 [l0, l1, l2, .val (.int x), l4, l5] st h = zrun zP sv C 222 24 [l0, l1, l2, .val (.int x), l4, l5] (.int x :: st) h := zx_go (zq_222_0 23 (Nat.le_of_ble_eq_true rfl) (Nat.le_of_ble_eq_true rfl)) rfl
theorem zs_222_24 : zrun zP sv C 222 24 [l0, l1, l2, l3, l4, l5] [v0] h = zbk (C 205 [v0] h) (fun v h' => zrun zP sv C 222 27 [l0, l1, l2, l3, l4, l5] (v.toList ++ []) h') (fun E h' => some (.inr E, h')) := zx_cs (zq_222_0 24 (Nat.le_of_ble_eq_true rfl) (Nat.le_of_ble_eq_true rfl)) rfl rfl rfl ⟨Nat.le_of_ble_eq_true rfl, rfl⟩ (fun _ _ => rfl)
theorem zs_222_27 : zrun zP sv C 222 27 [l0, l1, l2, l3, l4, l5] (.int x :: st) h = if x = 0 then zrun zP sv C 222 30 [l0, l1, l2, l3, l4, l5] st h else zrun zP sv C 222 34 [l0, l1, l2, l3, l4, l5] st h := (zx_if (zq_222_0 27 (Nat.le_of_ble_eq_true rfl) (Nat.le_of_ble_eq_true rfl)) rfl).trans zc1_if
theorem zs_222_30 : zrun zP sv C 222 30 [l0, .val (.int x), l2, l3, l4, l5] st h = zrun zP sv C 222 31 [l0, .val (.int x), l2, l3, l4, l5] (.int x :: st) h := zx_go (zq_222_0 30 (Nat.le_of_ble_eq_true rfl) (Nat.le_of_ble_eq_true rfl)) rfl
theorem zs_222_31 : zrun zP sv C 222 31 [l0, l1, l2, l3, l4, l5] st h = zrun zP sv C 222 32 [l0, l1, l2, l3, l4, l5] (.int (nI 1) :: st) h := zx_go (zq_222_0 31 (Nat.le_of_ble_eq_true rfl) (Nat.le_of_ble_eq_true rfl)) rfl
theorem zs_222_32 : zrun zP sv C 222 32 [l0, l1, l2, l3, l4, l5] (.int y :: .int x :: st) h = zrun zP sv C 222 33 [l0, l1, l2, l3, l4, l5] (.int (x + y) :: st) h := zx_go (zq_222_0 32 (Nat.le_of_ble_eq_true rfl) (Nat.le_of_ble_eq_true rfl)) rfl
theorem zs_222_33 : zrun zP sv C 222 33 [l0, l1, l2, l3, l4, l5] [.int x] h = some (.inl (some (.int x)), h) := zx_end (zq_222_0 33 (Nat.le_of_ble_eq_true rfl) (Nat.le_of_ble_eq_true rfl)) rfl
theorem zs_222_34 : zrun zP sv C 222 34 [.val (.ref a), l1, l2, l3, l4, l5] st h = zrun zP sv C 222 35 [.val (.ref a), l1, l2, l3, l4, l5] (.ref a :: st) h := zx_go (zq_222_0 34 (Nat.le_of_ble_eq_true rfl) (Nat.le_of_ble_eq_true rfl)) rfl
theorem zs_222_35 : zrun zP sv C 222 35 [l0, .val (.int x), l2, l3, l4, l5] st h = zrun zP sv C 222 36 [l0, .val (.int x), l2, l3, l4, l5] (.int x :: st) h := zx_go (zq_222_0 35 (Nat.le_of_ble_eq_true rfl) (Nat.le_of_ble_eq_true rfl)) rfl
theorem zs_222_36 : zrun zP sv C 222 36 [l0, l1, l2, l3, l4, l5] st h = zrun zP sv C 222 37 [l0, l1, l2, l3, l4, l5] (.int (nI 1) :: st) h := zx_go (zq_222_0 36 (Nat.le_of_ble_eq_true rfl) (Nat.le_of_ble_eq_true rfl)) rfl
theorem zs_222_37 : zrun zP sv C 222 37 [l0, l1, l2, l3, l4, l5] (.int y :: .int x :: st) h = zrun zP sv C 222 38 [l0, l1, l2, l3, l4, l5] (.int (x + y) :: st) h := zx_go (zq_222_0 37 (Nat.le_of_ble_eq_true rfl) (Nat.le_of_ble_eq_true rfl)) rfl
theorem zs_222_38 : zrun zP sv C 222 38 [l0, l1, l2, l3, l4, l5] [v1, .ref b] h = zrc (h.1 b) 13 (zbk (C 222 [.ref b, v1] h) (fun v h' => zrun zP sv C 222 41 [l0, l1, l2, l3, l4, l5] (v.toList ++ []) h') (fun E h' => some (.inr E, h'))) := zx_cv (x0 := 13) (zq_222_0 38 (Nat.le_of_ble_eq_true rfl) (Nat.le_of_ble_eq_true rfl)) rfl rfl rfl rfl ⟨Nat.le_of_ble_eq_true rfl, rfl⟩ (fun _ _ => rfl)
theorem zs_222_41 (hs : znw l4 = true) : zrun zP sv C 222 41 [l0, l1, l2, l3, l4, l5] (.int x :: st) h = zrun zP sv C 222 43 [l0, l1, l2, l3, .val (.int x), l5] st h := zx_st hs (zq_222_0 41 (Nat.le_of_ble_eq_true rfl) (Nat.le_of_ble_eq_true rfl)) rfl rfl rfl rfl rfl
theorem zs_222_43 : zrun zP sv C 222 43 [l0, l1, l2, .val (.int x), l4, l5] st h = zrun zP sv C 222 44 [l0, l1, l2, .val (.int x), l4, l5] (.int x :: st) h := zx_go (zq_222_0 43 (Nat.le_of_ble_eq_true rfl) (Nat.le_of_ble_eq_true rfl)) rfl
theorem zs_222_44 : zrun zP sv C 222 44 [l0, l1, l2, l3, l4, l5] st h = zrun zP sv C 222 46 [l0, l1, l2, l3, l4, l5] (.int (nI 110) :: st) h := zx_go (zq_222_0 44 (Nat.le_of_ble_eq_true rfl) (Nat.le_of_ble_eq_true rfl)) rfl
theorem zs_222_46 : zrun zP sv C 222 46 [l0, l1, l2, l3, l4, l5] (.int y :: .int x :: st) h = if x = y then zrun zP sv C 222 49 [l0, l1, l2, l3, l4, l5] st h else zrun zP sv C 222 107 [l0, l1, l2, l3, l4, l5] st h := (zx_ic (zq_222_0 46 (Nat.le_of_ble_eq_true rfl) (Nat.le_of_ble_eq_true rfl)) rfl).trans zc1_if
theorem zs_222_49 : zrun zP sv C 222 49 [.val (.ref a), l1, l2, l3, l4, l5] st h = zrun zP sv C 222 50 [.val (.ref a), l1, l2, l3, l4, l5] (.ref a :: st) h := zx_go (zq_222_0 49 (Nat.le_of_ble_eq_true rfl) (Nat.le_of_ble_eq_true rfl)) rfl
theorem zs_222_50 : zrun zP sv C 222 50 [l0, l1, l2, l3, l4, l5] (.ref a :: st) h = zfld (h.1 a) 13 9 (fun v => zrun zP sv C 222 53 [l0, l1, l2, l3, l4, l5] (v :: st) h) := zx_getf (zq_222_0 50 (Nat.le_of_ble_eq_true rfl) (Nat.le_of_ble_eq_true rfl)) rfl
theorem zs_222_53 : zrun zP sv C 222 53 [l0, l1, .val (.int x), l3, l4, l5] st h = zrun zP sv C 222 54 [l0, l1, .val (.int x), l3, l4, l5] (.int x :: st) h := zx_go (zq_222_0 53 (Nat.le_of_ble_eq_true rfl) (Nat.le_of_ble_eq_true rfl)) rfl
theorem zs_222_54 : zrun zP sv C 222 54 [l0, l1, l2, l3, l4, l5] st h = zrun zP sv C 222 55 [l0, l1, l2, l3, l4, l5] (.int (nI 1) :: st) h := zx_go (zq_222_0 54 (Nat.le_of_ble_eq_true rfl) (Nat.le_of_ble_eq_true rfl)) rfl
theorem zs_222_55 : zrun zP sv C 222 55 [l0, l1, l2, l3, l4, l5] (.int y :: .int x :: st) h = zrun zP sv C 222 56 [l0, l1, l2, l3, l4, l5] (.int (x + y) :: st) h := zx_go (zq_222_0 55 (Nat.le_of_ble_eq_true rfl) (Nat.le_of_ble_eq_true rfl)) rfl
theorem zs_222_56 : zrun zP sv C 222 56 [l0, l1, l2, l3, l4, l5] (.int x :: .ref a :: st) h = zael (h.1 a) 21 x (fun v => zrun zP sv C 222 57 [l0, l1, l2, l3, l4, l5] (v :: st) h) := zx_ald (zq_222_0 56 (Nat.le_of_ble_eq_true rfl) (Nat.le_of_ble_eq_true rfl)) rfl
theorem zs_222_57 : zrun zP sv C 222 57 [l0, l1, l2, l3, l4, l5] st h = zrun zP sv C 222 59 [l0, l1, l2, l3, l4, l5] (.int (nI 99) :: st) h := zx_go (zq_222_0 57 (Nat.le_of_ble_eq_true rfl) (Nat.le_of_ble_eq_true rfl)) rfl
theorem zs_222_59 : zrun zP sv C 222 59 [l0, l1, l2, l3, l4, l5] (.int y :: .int x :: st) h = if x = y then zrun zP sv C 222 62 [l0, l1, l2, l3, l4, l5] st h else zrun zP sv C 222 79 [l0, l1, l2, l3, l4, l5] st h := (zx_ic (zq_222_0 59 (Nat.le_of_ble_eq_true rfl) (Nat.le_of_ble_eq_true rfl)) rfl).trans zc1_if
theorem zs_222_62 : zrun zP sv C 222 62 [.val (.ref a), l1, l2, l3, l4, l5] st h = zrun zP sv C 222 63 [.val (.ref a), l1, l2, l3, l4, l5] (.ref a :: st) h := zx_go (zq_222_0 62 (Nat.le_of_ble_eq_true rfl) (Nat.le_of_ble_eq_true rfl)) rfl
theorem zs_222_63 : zrun zP sv C 222 63 [l0, l1, .val (.int x), l3, l4, l5] st h = zrun zP sv C 222 64 [l0, l1, .val (.int x), l3, l4, l5] (.int x :: st) h := zx_go (zq_222_0 63 (Nat.le_of_ble_eq_true rfl) (Nat.le_of_ble_eq_true rfl)) rfl
theorem zs_222_64 : zrun zP sv C 222 64 [.val (.ref a), l1, l2, l3, l4, l5] st h = zrun zP sv C 222 65 [.val (.ref a), l1, l2, l3, l4, l5] (.ref a :: st) h := zx_go (zq_222_0 64 (Nat.le_of_ble_eq_true rfl) (Nat.le_of_ble_eq_true rfl)) rfl
theorem zs_222_65 : zrun zP sv C 222 65 [l0, l1, l2, l3, l4, l5] (.ref a :: st) h = zfld (h.1 a) 13 10 (fun v => zrun zP sv C 222 68 [l0, l1, l2, l3, l4, l5] (v :: st) h) := zx_getf (zq_222_0 65 (Nat.le_of_ble_eq_true rfl) (Nat.le_of_ble_eq_true rfl)) rfl
theorem zs_222_68 : zrun zP sv C 222 68 [l0, l1, .val (.int x), l3, l4, l5] st h = zrun zP sv C 222 69 [l0, l1, .val (.int x), l3, l4, l5] (.int x :: st) h := zx_go (zq_222_0 68 (Nat.le_of_ble_eq_true rfl) (Nat.le_of_ble_eq_true rfl)) rfl
theorem zs_222_69 : zrun zP sv C 222 69 [l0, l1, l2, l3, l4, l5] st h = zrun zP sv C 222 70 [l0, l1, l2, l3, l4, l5] (.int (nI 1) :: st) h := zx_go (zq_222_0 69 (Nat.le_of_ble_eq_true rfl) (Nat.le_of_ble_eq_true rfl)) rfl
theorem zs_222_70 : zrun zP sv C 222 70 [l0, l1, l2, l3, l4, l5] (.int y :: .int x :: st) h = zrun zP sv C 222 71 [l0, l1, l2, l3, l4, l5] (.int (x + y) :: st) h := zx_go (zq_222_0 70 (Nat.le_of_ble_eq_true rfl) (Nat.le_of_ble_eq_true rfl)) rfl
theorem zs_222_71 : zrun zP sv C 222 71 [l0, l1, l2, l3, l4, l5] (.int x :: .ref a :: st) h = zael (h.1 a) 20 x (fun v => zrun zP sv C 222 72 [l0, l1, l2, l3, l4, l5] (v :: st) h) := zx_ald (zq_222_0 71 (Nat.le_of_ble_eq_true rfl) (Nat.le_of_ble_eq_true rfl)) rfl
theorem zs_222_72 : zrun zP sv C 222 72 [l0, l1, l2, l3, l4, l5] (.int x :: st) h = zrun zP sv C 222 73 [l0, l1, l2, l3, l4, l5] (.int (-x) :: st) h := zx_go (zq_222_0 72 (Nat.le_of_ble_eq_true rfl) (Nat.le_of_ble_eq_true rfl)) rfl
theorem zs_222_73 : zrun zP sv C 222 73 [l0, l1, l2, l3, l4, l5] [v2, v1, .ref b] h = zrc (h.1 b) 13 (zbk (C 219 [.ref b, v1, v2] h) (fun v h' => zrun zP sv C 222 76 [l0, l1, l2, l3, l4, l5] (v.toList ++ []) h') (fun E h' => some (.inr E, h'))) := zx_cv (x0 := 13) (zq_222_0 73 (Nat.le_of_ble_eq_true rfl) (Nat.le_of_ble_eq_true rfl)) rfl rfl rfl rfl ⟨Nat.le_of_ble_eq_true rfl, rfl⟩ (fun _ _ => rfl)
theorem zs_222_76 : zrun zP sv C 222 76 [l0, l1, l2, l3, l4, l5] st h = zrun zP sv C 222 104 [l0, l1, l2, l3, l4, l5] st h := zx_go (zq_222_0 76 (Nat.le_of_ble_eq_true rfl) (Nat.le_of_ble_eq_true rfl)) rfl
theorem zs_222_79 : zrun zP sv C 222 79 [.val (.ref a), l1, l2, l3, l4, l5] st h = zrun zP sv C 222 80 [.val (.ref a), l1, l2, l3, l4, l5] (.ref a :: st) h := zx_go (zq_222_0 79 (Nat.le_of_ble_eq_true rfl) (Nat.le_of_ble_eq_true rfl)) rfl
theorem zs_222_80 : zrun zP sv C 222 80 [l0, l1, l2, l3, l4, l5] (.ref a :: st) h = zfld (h.1 a) 13 9 (fun v => zrun zP sv C 222 83 [l0, l1, l2, l3, l4, l5] (v :: st) h) := zx_getf (zq_222_0 80 (Nat.le_of_ble_eq_true rfl) (Nat.le_of_ble_eq_true rfl)) rfl
theorem zs_222_83 : zrun zP sv C 222 83 [l0, l1, .val (.int x), l3, l4, l5] st h = zrun zP sv C 222 84 [l0, l1, .val (.int x), l3, l4, l5] (.int x :: st) h := zx_go (zq_222_0 83 (Nat.le_of_ble_eq_true rfl) (Nat.le_of_ble_eq_true rfl)) rfl
theorem zs_222_84 : zrun zP sv C 222 84 [l0, l1, l2, l3, l4, l5] st h = zrun zP sv C 222 85 [l0, l1, l2, l3, l4, l5] (.int (nI 1) :: st) h := zx_go (zq_222_0 84 (Nat.le_of_ble_eq_true rfl) (Nat.le_of_ble_eq_true rfl)) rfl
theorem zs_222_85 : zrun zP sv C 222 85 [l0, l1, l2, l3, l4, l5] (.int y :: .int x :: st) h = zrun zP sv C 222 86 [l0, l1, l2, l3, l4, l5] (.int (x + y) :: st) h := zx_go (zq_222_0 85 (Nat.le_of_ble_eq_true rfl) (Nat.le_of_ble_eq_true rfl)) rfl
theorem zs_222_86 : zrun zP sv C 222 86 [l0, l1, l2, l3, l4, l5] (.int x :: .ref a :: st) h = zael (h.1 a) 21 x (fun v => zrun zP sv C 222 87 [l0, l1, l2, l3, l4, l5] (v :: st) h) := zx_ald (zq_222_0 86 (Nat.le_of_ble_eq_true rfl) (Nat.le_of_ble_eq_true rfl)) rfl
theorem zs_222_87 : zrun zP sv C 222 87 [l0, l1, l2, l3, l4, l5] st h = zrun zP sv C 222 89 [l0, l1, l2, l3, l4, l5] (.int (nI 110) :: st) h := zx_go (zq_222_0 87 (Nat.le_of_ble_eq_true rfl) (Nat.le_of_ble_eq_true rfl)) rfl
theorem zs_222_89 : zrun zP sv C 222 89 [l0, l1, l2, l3, l4, l5] (.int y :: .int x :: st) h = if x = y then zrun zP sv C 222 92 [l0, l1, l2, l3, l4, l5] st h else zrun zP sv C 222 104 [l0, l1, l2, l3, l4, l5] st h := (zx_ic (zq_222_0 89 (Nat.le_of_ble_eq_true rfl) (Nat.le_of_ble_eq_true rfl)) rfl).trans zc1_if
theorem zs_222_92 : zrun zP sv C 222 92 [.val (.ref a), l1, l2, l3, l4, l5] st h = zrun zP sv C 222 93 [.val (.ref a), l1, l2, l3, l4, l5] (.ref a :: st) h := zx_go (zq_222_0 92 (Nat.le_of_ble_eq_true rfl) (Nat.le_of_ble_eq_true rfl)) rfl
theorem zs_222_93 : zrun zP sv C 222 93 [l0, l1, .val (.int x), l3, l4, l5] st h = zrun zP sv C 222 94 [l0, l1, .val (.int x), l3, l4, l5] (.int x :: st) h := zx_go (zq_222_0 93 (Nat.le_of_ble_eq_true rfl) (Nat.le_of_ble_eq_true rfl)) rfl
theorem zs_222_94 : zrun zP sv C 222 94 [l0, l1, .val (.int x), l3, l4, l5] st h = zrun zP sv C 222 95 [l0, l1, .val (.int x), l3, l4, l5] (.int x :: st) h := zx_go (zq_222_0 94 (Nat.le_of_ble_eq_true rfl) (Nat.le_of_ble_eq_true rfl)) rfl
theorem zs_222_95 : zrun zP sv C 222 95 [l0, l1, l2, l3, l4, l5] st h = zrun zP sv C 222 96 [l0, l1, l2, l3, l4, l5] (.int (nI 2) :: st) h := zx_go (zq_222_0 95 (Nat.le_of_ble_eq_true rfl) (Nat.le_of_ble_eq_true rfl)) rfl
theorem zs_222_96 : zrun zP sv C 222 96 [l0, l1, l2, l3, l4, l5] (.int y :: .int x :: st) h = zrun zP sv C 222 97 [l0, l1, l2, l3, l4, l5] (.int (x + y) :: st) h := zx_go (zq_222_0 96 (Nat.le_of_ble_eq_true rfl) (Nat.le_of_ble_eq_true rfl)) rfl
theorem zs_222_97 : zrun zP sv C 222 97 [.val (.ref a), l1, l2, l3, l4, l5] st h = zrun zP sv C 222 98 [.val (.ref a), l1, l2, l3, l4, l5] (.ref a :: st) h := zx_go (zq_222_0 97 (Nat.le_of_ble_eq_true rfl) (Nat.le_of_ble_eq_true rfl)) rfl
theorem zs_222_98 : zrun zP sv C 222 98 [l0, l1, l2, l3, l4, l5] (.ref a :: st) h = zfld (h.1 a) 13 11 (fun v => zrun zP sv C 222 101 [l0, l1, l2, l3, l4, l5] (v :: st) h) := zx_getf (zq_222_0 98 (Nat.le_of_ble_eq_true rfl) (Nat.le_of_ble_eq_true rfl)) rfl
theorem zs_222_101 : zrun zP sv C 222 101 [l0, l1, l2, l3, l4, l5] [v3, v2, v1, .ref b] h = zrc (h.1 b) 13 (zbk (C 218 [.ref b, v1, v2, v3] h) (fun v h' => zrun zP sv C 222 104 [l0, l1, l2, l3, l4, l5] (v.toList ++ []) h') (fun E h' => some (.inr E, h'))) := zx_cv (x0 := 13) (zq_222_0 101 (Nat.le_of_ble_eq_true rfl) (Nat.le_of_ble_eq_true rfl)) rfl rfl rfl rfl ⟨Nat.le_of_ble_eq_true rfl, rfl⟩ (fun _ _ => rfl)
theorem zs_222_104 : zrun zP sv C 222 104 [l0, l1, l2, l3, .val (.int x), l5] st h = zrun zP sv C 222 106 [l0, l1, l2, l3, .val (.int x), l5] (.int x :: st) h := zx_go (zq_222_0 104 (Nat.le_of_ble_eq_true rfl) (Nat.le_of_ble_eq_true rfl)) rfl
theorem zs_222_106 : zrun zP sv C 222 106 [l0, l1, l2, l3, l4, l5] [.int x] h = some (.inl (some (.int x)), h) := zx_end (zq_222_0 106 (Nat.le_of_ble_eq_true rfl) (Nat.le_of_ble_eq_true rfl)) rfl
theorem zs_222_107 : zrun zP sv C 222 107 [.val (.ref a), l1, l2, l3, l4, l5] st h = zrun zP sv C 222 108 [.val (.ref a), l1, l2, l3, l4, l5] (.ref a :: st) h := zx_go (zq_222_0 107 (Nat.le_of_ble_eq_true rfl) (Nat.le_of_ble_eq_true rfl)) rfl
theorem zs_222_108 : zrun zP sv C 222 108 [l0, l1, l2, l3, l4, l5] (.ref a :: st) h = zfld (h.1 a) 13 11 (fun v => zrun zP sv C 222 111 [l0, l1, l2, l3, l4, l5] (v :: st) h) := zx_getf (zq_222_0 108 (Nat.le_of_ble_eq_true rfl) (Nat.le_of_ble_eq_true rfl)) rfl
theorem zs_222_111 (hs : znw l5 = true) : zrun zP sv C 222 111 [l0, l1, l2, l3, l4, l5] (.int x :: st) h = zrun zP sv C 222 113 [l0, l1, l2, l3, l4, .val (.int x)] st h := zx_st hs (zq_222_0 111 (Nat.le_of_ble_eq_true rfl) (Nat.le_of_ble_eq_true rfl)) rfl rfl rfl rfl rfl
theorem zs_222_113 : zrun zP sv C 222 113 [.val (.ref a), l1, l2, l3, l4, l5] st h = zrun zP sv C 222 114 [.val (.ref a), l1, l2, l3, l4, l5] (.ref a :: st) h := zx_go (zq_222_0 113 (Nat.le_of_ble_eq_true rfl) (Nat.le_of_ble_eq_true rfl)) rfl
theorem zs_222_114 : zrun zP sv C 222 114 [l0, l1, l2, l3, .val (.int x), l5] st h = zrun zP sv C 222 116 [l0, l1, l2, l3, .val (.int x), l5] (.int x :: st) h := zx_go (zq_222_0 114 (Nat.le_of_ble_eq_true rfl) (Nat.le_of_ble_eq_true rfl)) rfl
theorem zs_222_116 : zrun zP sv C 222 116 [l0, l1, l2, l3, l4, l5] [v1, .ref b] h = zrc (h.1 b) 13 (zbk (C 222 [.ref b, v1] h) (fun v h' => zrun zP sv C 222 119 [l0, l1, l2, l3, l4, l5] (v.toList ++ []) h') (fun E h' => some (.inr E, h'))) := zx_cv (x0 := 13) (zq_222_0 116 (Nat.le_of_ble_eq_true rfl) (Nat.le_of_ble_eq_true rfl)) rfl rfl rfl rfl ⟨Nat.le_of_ble_eq_true rfl, rfl⟩ (fun _ _ => rfl)
theorem zs_222_119 (hs : znw l4 = true) : zrun zP sv C 222 119 [l0, l1, l2, l3, l4, l5] (.int x :: st) h = zrun zP sv C 222 121 [l0, l1, l2, l3, .val (.int x), l5] st h := zx_st hs (zq_222_0 119 (Nat.le_of_ble_eq_true rfl) (Nat.le_of_ble_eq_true rfl)) rfl rfl rfl rfl rfl
theorem zs_222_121 : zrun zP sv C 222 121 [.val (.ref a), l1, l2, l3, l4, l5] st h = zrun zP sv C 222 122 [.val (.ref a), l1, l2, l3, l4, l5] (.ref a :: st) h := zx_go (zq_222_0 121 (Nat.le_of_ble_eq_true rfl) (Nat.le_of_ble_eq_true rfl)) rfl
theorem zs_222_122 : zrun zP sv C 222 122 [l0, l1, l2, l3, l4, l5] (.ref a :: st) h = zfld (h.1 a) 13 9 (fun v => zrun zP sv C 222 125 [l0, l1, l2, l3, l4, l5] (v :: st) h) := zx_getf (zq_222_0 122 (Nat.le_of_ble_eq_true rfl) (Nat.le_of_ble_eq_true rfl)) rfl
theorem zs_222_125 : zrun zP sv C 222 125 [l0, l1, .val (.int x), l3, l4, l5] st h = zrun zP sv C 222 126 [l0, l1, .val (.int x), l3, l4, l5] (.int x :: st) h := zx_go (zq_222_0 125 (Nat.le_of_ble_eq_true rfl) (Nat.le_of_ble_eq_true rfl)) rfl
theorem zs_222_126 : zrun zP sv C 222 126 [l0, l1, l2, l3, l4, l5] st h = zrun zP sv C 222 127 [l0, l1, l2, l3, l4, l5] (.int (nI 1) :: st) h := zx_go (zq_222_0 126 (Nat.le_of_ble_eq_true rfl) (Nat.le_of_ble_eq_true rfl)) rfl
theorem zs_222_127 : zrun zP sv C 222 127 [l0, l1, l2, l3, l4, l5] (.int y :: .int x :: st) h = zrun zP sv C 222 128 [l0, l1, l2, l3, l4, l5] (.int (x + y) :: st) h := zx_go (zq_222_0 127 (Nat.le_of_ble_eq_true rfl) (Nat.le_of_ble_eq_true rfl)) rfl
theorem zs_222_128 : zrun zP sv C 222 128 [l0, l1, l2, l3, l4, l5] (.int x :: .ref a :: st) h = zael (h.1 a) 21 x (fun v => zrun zP sv C 222 129 [l0, l1, l2, l3, l4, l5] (v :: st) h) := zx_ald (zq_222_0 128 (Nat.le_of_ble_eq_true rfl) (Nat.le_of_ble_eq_true rfl)) rfl
theorem zs_222_129 : zrun zP sv C 222 129 [l0, l1, l2, l3, l4, l5] st h = zrun zP sv C 222 131 [l0, l1, l2, l3, l4, l5] (.int (nI 99) :: st) h := zx_go (zq_222_0 129 (Nat.le_of_ble_eq_true rfl) (Nat.le_of_ble_eq_true rfl)) rfl
theorem zs_222_131 : zrun zP sv C 222 131 [l0, l1, l2, l3, l4, l5] (.int y :: .int x :: st) h = if x = y then zrun zP sv C 222 134 [l0, l1, l2, l3, l4, l5] st h else zrun zP sv C 222 173 [l0, l1, l2, l3, l4, l5] st h := (zx_ic (zq_222_0 131 (Nat.le_of_ble_eq_true rfl) (Nat.le_of_ble_eq_true rfl)) rfl).trans zc1_if
theorem zs_222_134 : zrun zP sv C 222 134 [.val (.ref a), l1, l2, l3, l4, l5] st h = zrun zP sv C 222 135 [.val (.ref a), l1, l2, l3, l4, l5] (.ref a :: st) h := zx_go (zq_222_0 134 (Nat.le_of_ble_eq_true rfl) (Nat.le_of_ble_eq_true rfl)) rfl
theorem zs_222_135 : zrun zP sv C 222 135 [l0, l1, l2, l3, l4, l5] (.ref a :: st) h = zfld (h.1 a) 13 9 (fun v => zrun zP sv C 222 138 [l0, l1, l2, l3, l4, l5] (v :: st) h) := zx_getf (zq_222_0 135 (Nat.le_of_ble_eq_true rfl) (Nat.le_of_ble_eq_true rfl)) rfl
theorem zs_222_138 : zrun zP sv C 222 138 [l0, l1, l2, l3, l4, .val (.int x)] st h = zrun zP sv C 222 140 [l0, l1, l2, l3, l4, .val (.int x)] (.int x :: st) h := zx_go (zq_222_0 138 (Nat.le_of_ble_eq_true rfl) (Nat.le_of_ble_eq_true rfl)) rfl
theorem zs_222_140 : zrun zP sv C 222 140 [l0, l1, l2, l3, l4, l5] (.int x :: .ref a :: st) h = zael (h.1 a) 21 x (fun v => zrun zP sv C 222 141 [l0, l1, l2, l3, l4, l5] (v :: st) h) := zx_ald (zq_222_0 140 (Nat.le_of_ble_eq_true rfl) (Nat.le_of_ble_eq_true rfl)) rfl
theorem zs_222_141 : zrun zP sv C 222 141 [l0, l1, l2, l3, l4, l5] st h = zrun zP sv C 222 143 [l0, l1, l2, l3, l4, l5] (.int (nI 99) :: st) h := zx_go (zq_222_0 141 (Nat.le_of_ble_eq_true rfl) (Nat.le_of_ble_eq_true rfl)) rfl
theorem zs_222_143 : zrun zP sv C 222 143 [l0, l1, l2, l3, l4, l5] (.int y :: .int x :: st) h = if x = y then zrun zP sv C 222 146 [l0, l1, l2, l3, l4, l5] st h else zrun zP sv C 222 173 [l0, l1, l2, l3, l4, l5] st h := (zx_ic (zq_222_0 143 (Nat.le_of_ble_eq_true rfl) (Nat.le_of_ble_eq_true rfl)) rfl).trans zc1_if
theorem zs_222_146 : zrun zP sv C 222 146 [.val (.ref a), l1, l2, l3, l4, l5] st h = zrun zP sv C 222 147 [.val (.ref a), l1, l2, l3, l4, l5] (.ref a :: st) h := zx_go (zq_222_0 146 (Nat.le_of_ble_eq_true rfl) (Nat.le_of_ble_eq_true rfl)) rfl
theorem zs_222_147 : zrun zP sv C 222 147 [l0, l1, .val (.int x), l3, l4, l5] st h = zrun zP sv C 222 148 [l0, l1, .val (.int x), l3, l4, l5] (.int x :: st) h := zx_go (zq_222_0 147 (Nat.le_of_ble_eq_true rfl) (Nat.le_of_ble_eq_true rfl)) rfl
theorem zs_222_148 : zrun zP sv C 222 148 [l0, l1, l2, .val (.int x), l4, l5] st h = zrun zP sv C 222 149 [l0, l1, l2, .val (.int x), l4, l5] (.int x :: st) h := zx_go (zq_222_0 148 (Nat.le_of_ble_eq_true rfl) (Nat.le_of_ble_eq_true rfl)) rfl
theorem zs_222_149 : zrun zP sv C 222 149 [.val (.ref a), l1, l2, l3, l4, l5] st h = zrun zP sv C 222 150 [.val (.ref a), l1, l2, l3, l4, l5] (.ref a :: st) h := zx_go (zq_222_0 149 (Nat.le_of_ble_eq_true rfl) (Nat.le_of_ble_eq_true rfl)) rfl
theorem zs_222_150 : zrun zP sv C 222 150 [l0, l1, l2, l3, l4, l5] (.ref a :: st) h = zfld (h.1 a) 13 10 (fun v => zrun zP sv C 222 153 [l0, l1, l2, l3, l4, l5] (v :: st) h) := zx_getf (zq_222_0 150 (Nat.le_of_ble_eq_true rfl) (Nat.le_of_ble_eq_true rfl)) rfl
theorem zs_222_153 : zrun zP sv C 222 153 [l0, l1, .val (.int x), l3, l4, l5] st h = zrun zP sv C 222 154 [l0, l1, .val (.int x), l3, l4, l5] (.int x :: st) h := zx_go (zq_222_0 153 (Nat.le_of_ble_eq_true rfl) (Nat.le_of_ble_eq_true rfl)) rfl
theorem zs_222_154 : zrun zP sv C 222 154 [l0, l1, l2, l3, l4, l5] st h = zrun zP sv C 222 155 [l0, l1, l2, l3, l4, l5] (.int (nI 1) :: st) h := zx_go (zq_222_0 154 (Nat.le_of_ble_eq_true rfl) (Nat.le_of_ble_eq_true rfl)) rfl
theorem zs_222_155 : zrun zP sv C 222 155 [l0, l1, l2, l3, l4, l5] (.int y :: .int x :: st) h = zrun zP sv C 222 156 [l0, l1, l2, l3, l4, l5] (.int (x + y) :: st) h := zx_go (zq_222_0 155 (Nat.le_of_ble_eq_true rfl) (Nat.le_of_ble_eq_true rfl)) rfl
theorem zs_222_156 : zrun zP sv C 222 156 [l0, l1, l2, l3, l4, l5] (.int x :: .ref a :: st) h = zael (h.1 a) 20 x (fun v => zrun zP sv C 222 157 [l0, l1, l2, l3, l4, l5] (v :: st) h) := zx_ald (zq_222_0 156 (Nat.le_of_ble_eq_true rfl) (Nat.le_of_ble_eq_true rfl)) rfl
theorem zs_222_157 : zrun zP sv C 222 157 [.val (.ref a), l1, l2, l3, l4, l5] st h = zrun zP sv C 222 158 [.val (.ref a), l1, l2, l3, l4, l5] (.ref a :: st) h := zx_go (zq_222_0 157 (Nat.le_of_ble_eq_true rfl) (Nat.le_of_ble_eq_true rfl)) rfl
theorem zs_222_158 : zrun zP sv C 222 158 [l0, l1, l2, l3, l4, l5] (.ref a :: st) h = zfld (h.1 a) 13 10 (fun v => zrun zP sv C 222 161 [l0, l1, l2, l3, l4, l5] (v :: st) h) := zx_getf (zq_222_0 158 (Nat.le_of_ble_eq_true rfl) (Nat.le_of_ble_eq_true rfl)) rfl
theorem zs_222_161 : zrun zP sv C 222 161 [l0, l1, l2, l3, l4, .val (.int x)] st h = zrun zP sv C 222 163 [l0, l1, l2, l3, l4, .val (.int x)] (.int x :: st) h := zx_go (zq_222_1 161 (Nat.le_of_ble_eq_true rfl) (Nat.le_of_ble_eq_true rfl)) rfl
theorem zs_222_163 : zrun zP sv C 222 163 [l0, l1, l2, l3, l4, l5] (.int x :: .ref a :: st) h = zael (h.1 a) 20 x (fun v => zrun zP sv C 222 164 [l0, l1, l2, l3, l4, l5] (v :: st) h) := zx_ald (zq_222_1 163 (Nat.le_of_ble_eq_true rfl) (Nat.le_of_ble_eq_true rfl)) rfl
theorem zs_222_164 : zrun zP sv C 222 164 [l0, l1, l2, l3, l4, l5] [v2, v1, v0, r0, r1] h = zbk (C 211 [v0, v1, v2] h) (fun v h' => zrun zP sv C 222 167 [l0, l1, l2, l3, l4, l5] (v.toList ++ [r0, r1]) h') (fun E h' => some (.inr E, h')) := zx_cs (zq_222_1 164 (Nat.le_of_ble_eq_true rfl) (Nat.le_of_ble_eq_true rfl)) rfl rfl rfl ⟨Nat.le_of_ble_eq_true rfl, rfl⟩ (fun _ _ => rfl)
theorem zs_222_167 : zrun zP sv C 222 167 [l0, l1, l2, l3, l4, l5] [v2, v1, .ref b] h = zrc (h.1 b) 13 (zbk (C 219 [.ref b, v1, v2] h) (fun v h' => zrun zP sv C 222 170 [l0, l1, l2, l3, l4, l5] (v.toList ++ []) h') (fun E h' => some (.inr E, h'))) := zx_cv (x0 := 13) (zq_222_1 167 (Nat.le_of_ble_eq_true rfl) (Nat.le_of_ble_eq_true rfl)) rfl rfl rfl rfl ⟨Nat.le_of_ble_eq_true rfl, rfl⟩ (fun _ _ => rfl)
theorem zs_222_170 : zrun zP sv C 222 170 [l0, l1, l2, l3, l4, l5] st h = zrun zP sv C 222 380 [l0, l1, l2, l3, l4, l5] st h := zx_go (zq_222_1 170 (Nat.le_of_ble_eq_true rfl) (Nat.le_of_ble_eq_true rfl)) rfl
theorem zs_222_173 : zrun zP sv C 222 173 [l0, l1, l2, .val (.int x), l4, l5] st h = zrun zP sv C 222 174 [l0, l1, l2, .val (.int x), l4, l5] (.int x :: st) h := zx_go (zq_222_1 173 (Nat.le_of_ble_eq_true rfl) (Nat.le_of_ble_eq_true rfl)) rfl
theorem zs_222_174 : zrun zP sv C 222 174 [l0, l1, l2, l3, l4, l5] st h = zrun zP sv C 222 176 [l0, l1, l2, l3, l4, l5] (.int (nI 43) :: st) h := zx_go (zq_222_1 174 (Nat.le_of_ble_eq_true rfl) (Nat.le_of_ble_eq_true rfl)) rfl
theorem zs_222_176 : zrun zP sv C 222 176 [l0, l1, l2, l3, l4, l5] (.int y :: .int x :: st) h = if x = y then zrun zP sv C 222 179 [l0, l1, l2, l3, l4, l5] st h else zrun zP sv C 222 204 [l0, l1, l2, l3, l4, l5] st h := (zx_ic (zq_222_1 176 (Nat.le_of_ble_eq_true rfl) (Nat.le_of_ble_eq_true rfl)) rfl).trans zc1_if
theorem zs_222_179 : zrun zP sv C 222 179 [.val (.ref a), l1, l2, l3, l4, l5] st h = zrun zP sv C 222 180 [.val (.ref a), l1, l2, l3, l4, l5] (.ref a :: st) h := zx_go (zq_222_1 179 (Nat.le_of_ble_eq_true rfl) (Nat.le_of_ble_eq_true rfl)) rfl
theorem zs_222_180 : zrun zP sv C 222 180 [l0, l1, .val (.int x), l3, l4, l5] st h = zrun zP sv C 222 181 [l0, l1, .val (.int x), l3, l4, l5] (.int x :: st) h := zx_go (zq_222_1 180 (Nat.le_of_ble_eq_true rfl) (Nat.le_of_ble_eq_true rfl)) rfl
theorem zs_222_181 : zrun zP sv C 222 181 [l0, l1, l2, l3, l4, l5] st h = zrun zP sv C 222 182 [l0, l1, l2, l3, l4, l5] (.int (nI 1) :: st) h := zx_go (zq_222_1 181 (Nat.le_of_ble_eq_true rfl) (Nat.le_of_ble_eq_true rfl)) rfl
theorem zs_222_182 : zrun zP sv C 222 182 [l0, l1, l2, l3, l4, l5] (.int y :: .int x :: st) h = zrun zP sv C 222 183 [l0, l1, l2, l3, l4, l5] (.int (x + y) :: st) h := zx_go (zq_222_1 182 (Nat.le_of_ble_eq_true rfl) (Nat.le_of_ble_eq_true rfl)) rfl
theorem zs_222_183 : zrun zP sv C 222 183 [l0, l1, l2, l3, l4, l5] st h = zrun zP sv C 222 184 [l0, l1, l2, l3, l4, l5] (.int 0 :: st) h := zx_go (zq_222_1 183 (Nat.le_of_ble_eq_true rfl) (Nat.le_of_ble_eq_true rfl)) rfl
theorem zs_222_184 : zrun zP sv C 222 184 [l0, l1, l2, l3, l4, l5] [v2, v1, .ref b] h = zrc (h.1 b) 13 (zbk (C 220 [.ref b, v1, v2] h) (fun v h' => zrun zP sv C 222 187 [l0, l1, l2, l3, l4, l5] (v.toList ++ []) h') (fun E h' => some (.inr E, h'))) := zx_cv (x0 := 13) (zq_222_1 184 (Nat.le_of_ble_eq_true rfl) (Nat.le_of_ble_eq_true rfl)) rfl rfl rfl rfl ⟨Nat.le_of_ble_eq_true rfl, rfl⟩ (fun _ _ => rfl)
theorem zs_222_187 : zrun zP sv C 222 187 [l0, l1, l2, l3, l4, l5] (.int x :: st) h = if x = 0 then zrun zP sv C 222 204 [l0, l1, l2, l3, l4, l5] st h else zrun zP sv C 222 190 [l0, l1, l2, l3, l4, l5] st h := (zx_if (zq_222_1 187 (Nat.le_of_ble_eq_true rfl) (Nat.le_of_ble_eq_true rfl)) rfl).trans zc0_if
theorem zs_222_190 : zrun zP sv C 222 190 [.val (.ref a), l1, l2, l3, l4, l5] st h = zrun zP sv C 222 191 [.val (.ref a), l1, l2, l3, l4, l5] (.ref a :: st) h := zx_go (zq_222_1 190 (Nat.le_of_ble_eq_true rfl) (Nat.le_of_ble_eq_true rfl)) rfl
theorem zs_222_191 : zrun zP sv C 222 191 [l0, l1, .val (.int x), l3, l4, l5] st h = zrun zP sv C 222 192 [l0, l1, .val (.int x), l3, l4, l5] (.int x :: st) h := zx_go (zq_222_1 191 (Nat.le_of_ble_eq_true rfl) (Nat.le_of_ble_eq_true rfl)) rfl
theorem zs_222_192 : zrun zP sv C 222 192 [l0, l1, l2, l3, l4, .val (.int x)] st h = zrun zP sv C 222 194 [l0, l1, l2, l3, l4, .val (.int x)] (.int x :: st) h := zx_go (zq_222_1 192 (Nat.le_of_ble_eq_true rfl) (Nat.le_of_ble_eq_true rfl)) rfl
theorem zs_222_194 : zrun zP sv C 222 194 [.val (.ref a), l1, l2, l3, l4, l5] st h = zrun zP sv C 222 195 [.val (.ref a), l1, l2, l3, l4, l5] (.ref a :: st) h := zx_go (zq_222_1 194 (Nat.le_of_ble_eq_true rfl) (Nat.le_of_ble_eq_true rfl)) rfl
theorem zs_222_195 : zrun zP sv C 222 195 [l0, l1, l2, l3, l4, l5] (.ref a :: st) h = zfld (h.1 a) 13 11 (fun v => zrun zP sv C 222 198 [l0, l1, l2, l3, l4, l5] (v :: st) h) := zx_getf (zq_222_1 195 (Nat.le_of_ble_eq_true rfl) (Nat.le_of_ble_eq_true rfl)) rfl
theorem zs_222_198 : zrun zP sv C 222 198 [l0, l1, l2, l3, l4, l5] [v3, v2, v1, .ref b] h = zrc (h.1 b) 13 (zbk (C 218 [.ref b, v1, v2, v3] h) (fun v h' => zrun zP sv C 222 201 [l0, l1, l2, l3, l4, l5] (v.toList ++ []) h') (fun E h' => some (.inr E, h'))) := zx_cv (x0 := 13) (zq_222_1 198 (Nat.le_of_ble_eq_true rfl) (Nat.le_of_ble_eq_true rfl)) rfl rfl rfl rfl ⟨Nat.le_of_ble_eq_true rfl, rfl⟩ (fun _ _ => rfl)
theorem zs_222_201 : zrun zP sv C 222 201 [l0, l1, l2, l3, l4, l5] st h = zrun zP sv C 222 380 [l0, l1, l2, l3, l4, l5] st h := zx_go (zq_222_1 201 (Nat.le_of_ble_eq_true rfl) (Nat.le_of_ble_eq_true rfl)) rfl
theorem zs_222_204 : zrun zP sv C 222 204 [l0, l1, l2, .val (.int x), l4, l5] st h = zrun zP sv C 222 205 [l0, l1, l2, .val (.int x), l4, l5] (.int x :: st) h := zx_go (zq_222_1 204 (Nat.le_of_ble_eq_true rfl) (Nat.le_of_ble_eq_true rfl)) rfl
theorem zs_222_205 : zrun zP sv C 222 205 [l0, l1, l2, l3, l4, l5] st h = zrun zP sv C 222 207 [l0, l1, l2, l3, l4, l5] (.int (nI 42) :: st) h := zx_go (zq_222_1 205 (Nat.le_of_ble_eq_true rfl) (Nat.le_of_ble_eq_true rfl)) rfl
theorem zs_222_207 : zrun zP sv C 222 207 [l0, l1, l2, l3, l4, l5] (.int y :: .int x :: st) h = if x = y then zrun zP sv C 222 233 [l0, l1, l2, l3, l4, l5] st h else zrun zP sv C 222 210 [l0, l1, l2, l3, l4, l5] st h := (zx_ic (zq_222_1 207 (Nat.le_of_ble_eq_true rfl) (Nat.le_of_ble_eq_true rfl)) rfl).trans zc0_if
theorem zs_222_210 : zrun zP sv C 222 210 [.val (.ref a), l1, l2, l3, l4, l5] st h = zrun zP sv C 222 211 [.val (.ref a), l1, l2, l3, l4, l5] (.ref a :: st) h := zx_go (zq_222_1 210 (Nat.le_of_ble_eq_true rfl) (Nat.le_of_ble_eq_true rfl)) rfl
theorem zs_222_211 : zrun zP sv C 222 211 [l0, l1, l2, l3, l4, .val (.int x)] st h = zrun zP sv C 222 213 [l0, l1, l2, l3, l4, .val (.int x)] (.int x :: st) h := zx_go (zq_222_1 211 (Nat.le_of_ble_eq_true rfl) (Nat.le_of_ble_eq_true rfl)) rfl
theorem zs_222_213 : zrun zP sv C 222 213 [l0, l1, l2, l3, l4, l5] st h = zrun zP sv C 222 214 [l0, l1, l2, l3, l4, l5] (.int 0 :: st) h := zx_go (zq_222_1 213 (Nat.le_of_ble_eq_true rfl) (Nat.le_of_ble_eq_true rfl)) rfl
theorem zs_222_214 : zrun zP sv C 222 214 [l0, l1, l2, l3, l4, l5] [v2, v1, .ref b] h = zrc (h.1 b) 13 (zbk (C 220 [.ref b, v1, v2] h) (fun v h' => zrun zP sv C 222 217 [l0, l1, l2, l3, l4, l5] (v.toList ++ []) h') (fun E h' => some (.inr E, h'))) := zx_cv (x0 := 13) (zq_222_1 214 (Nat.le_of_ble_eq_true rfl) (Nat.le_of_ble_eq_true rfl)) rfl rfl rfl rfl ⟨Nat.le_of_ble_eq_true rfl, rfl⟩ (fun _ _ => rfl)
theorem zs_222_217 : zrun zP sv C 222 217 [l0, l1, l2, l3, l4, l5] (.int x :: st) h = if x = 0 then zrun zP sv C 222 233 [l0, l1, l2, l3, l4, l5] st h else zrun zP sv C 222 220 [l0, l1, l2, l3, l4, l5] st h := (zx_if (zq_222_1 217 (Nat.le_of_ble_eq_true rfl) (Nat.le_of_ble_eq_true rfl)) rfl).trans zc0_if
theorem zs_222_220 : zrun zP sv C 222 220 [.val (.ref a), l1, l2, l3, l4, l5] st h = zrun zP sv C 222 221 [.val (.ref a), l1, l2, l3, l4, l5] (.ref a :: st) h := zx_go (zq_222_1 220 (Nat.le_of_ble_eq_true rfl) (Nat.le_of_ble_eq_true rfl)) rfl
theorem zs_222_221 : zrun zP sv C 222 221 [l0, l1, .val (.int x), l3, l4, l5] st h = zrun zP sv C 222 222 [l0, l1, .val (.int x), l3, l4, l5] (.int x :: st) h := zx_go (zq_222_1 221 (Nat.le_of_ble_eq_true rfl) (Nat.le_of_ble_eq_true rfl)) rfl
theorem zs_222_222 : zrun zP sv C 222 222 [l0, l1, .val (.int x), l3, l4, l5] st h = zrun zP sv C 222 223 [l0, l1, .val (.int x), l3, l4, l5] (.int x :: st) h := zx_go (zq_222_1 222 (Nat.le_of_ble_eq_true rfl) (Nat.le_of_ble_eq_true rfl)) rfl
theorem zs_222_223 : zrun zP sv C 222 223 [l0, l1, l2, l3, l4, l5] st h = zrun zP sv C 222 224 [l0, l1, l2, l3, l4, l5] (.int (nI 1) :: st) h := zx_go (zq_222_1 223 (Nat.le_of_ble_eq_true rfl) (Nat.le_of_ble_eq_true rfl)) rfl
theorem zs_222_224 : zrun zP sv C 222 224 [l0, l1, l2, l3, l4, l5] (.int y :: .int x :: st) h = zrun zP sv C 222 225 [l0, l1, l2, l3, l4, l5] (.int (x + y) :: st) h := zx_go (zq_222_1 224 (Nat.le_of_ble_eq_true rfl) (Nat.le_of_ble_eq_true rfl)) rfl
theorem zs_222_225 : zrun zP sv C 222 225 [l0, l1, l2, l3, l4, .val (.int x)] st h = zrun zP sv C 222 227 [l0, l1, l2, l3, l4, .val (.int x)] (.int x :: st) h := zx_go (zq_222_1 225 (Nat.le_of_ble_eq_true rfl) (Nat.le_of_ble_eq_true rfl)) rfl
theorem zs_222_227 : zrun zP sv C 222 227 [l0, l1, l2, l3, l4, l5] [v3, v2, v1, .ref b] h = zrc (h.1 b) 13 (zbk (C 218 [.ref b, v1, v2, v3] h) (fun v h' => zrun zP sv C 222 230 [l0, l1, l2, l3, l4, l5] (v.toList ++ []) h') (fun E h' => some (.inr E, h'))) := zx_cv (x0 := 13) (zq_222_1 227 (Nat.le_of_ble_eq_true rfl) (Nat.le_of_ble_eq_true rfl)) rfl rfl rfl rfl ⟨Nat.le_of_ble_eq_true rfl, rfl⟩ (fun _ _ => rfl)
theorem zs_222_230 : zrun zP sv C 222 230 [l0, l1, l2, l3, l4, l5] st h = zrun zP sv C 222 380 [l0, l1, l2, l3, l4, l5] st h := zx_go (zq_222_1 230 (Nat.le_of_ble_eq_true rfl) (Nat.le_of_ble_eq_true rfl)) rfl
theorem zs_222_233 : zrun zP sv C 222 233 [l0, l1, l2, .val (.int x), l4, l5] st h = zrun zP sv C 222 234 [l0, l1, l2, .val (.int x), l4, l5] (.int x :: st) h := zx_go (zq_222_1 233 (Nat.le_of_ble_eq_true rfl) (Nat.le_of_ble_eq_true rfl)) rfl
theorem zs_222_234 : zrun zP sv C 222 234 [l0, l1, l2, l3, l4, l5] st h = zrun zP sv C 222 236 [l0, l1, l2, l3, l4, l5] (.int (nI 45) :: st) h := zx_go (zq_222_1 234 (Nat.le_of_ble_eq_true rfl) (Nat.le_of_ble_eq_true rfl)) rfl
theorem zs_222_236 : zrun zP sv C 222 236 [l0, l1, l2, l3, l4, l5] (.int y :: .int x :: st) h = if x = y then zrun zP sv C 222 239 [l0, l1, l2, l3, l4, l5] st h else zrun zP sv C 222 260 [l0, l1, l2, l3, l4, l5] st h := (zx_ic (zq_222_1 236 (Nat.le_of_ble_eq_true rfl) (Nat.le_of_ble_eq_true rfl)) rfl).trans zc1_if
theorem zs_222_239 : zrun zP sv C 222 239 [.val (.ref a), l1, l2, l3, l4, l5] st h = zrun zP sv C 222 240 [.val (.ref a), l1, l2, l3, l4, l5] (.ref a :: st) h := zx_go (zq_222_1 239 (Nat.le_of_ble_eq_true rfl) (Nat.le_of_ble_eq_true rfl)) rfl
theorem zs_222_240 : zrun zP sv C 222 240 [l0, l1, .val (.int x), l3, l4, l5] st h = zrun zP sv C 222 241 [l0, l1, .val (.int x), l3, l4, l5] (.int x :: st) h := zx_go (zq_222_1 240 (Nat.le_of_ble_eq_true rfl) (Nat.le_of_ble_eq_true rfl)) rfl
theorem zs_222_241 : zrun zP sv C 222 241 [l0, l1, l2, l3, l4, l5] st h = zrun zP sv C 222 242 [l0, l1, l2, l3, l4, l5] (.int (nI 1) :: st) h := zx_go (zq_222_1 241 (Nat.le_of_ble_eq_true rfl) (Nat.le_of_ble_eq_true rfl)) rfl
theorem zs_222_242 : zrun zP sv C 222 242 [l0, l1, l2, l3, l4, l5] (.int y :: .int x :: st) h = zrun zP sv C 222 243 [l0, l1, l2, l3, l4, l5] (.int (x + y) :: st) h := zx_go (zq_222_1 242 (Nat.le_of_ble_eq_true rfl) (Nat.le_of_ble_eq_true rfl)) rfl
theorem zs_222_243 : zrun zP sv C 222 243 [l0, l1, l2, l3, l4, l5] st h = zrun zP sv C 222 244 [l0, l1, l2, l3, l4, l5] (.int 0 :: st) h := zx_go (zq_222_1 243 (Nat.le_of_ble_eq_true rfl) (Nat.le_of_ble_eq_true rfl)) rfl
theorem zs_222_244 : zrun zP sv C 222 244 [l0, l1, l2, l3, l4, l5] [v2, v1, .ref b] h = zrc (h.1 b) 13 (zbk (C 220 [.ref b, v1, v2] h) (fun v h' => zrun zP sv C 222 247 [l0, l1, l2, l3, l4, l5] (v.toList ++ []) h') (fun E h' => some (.inr E, h'))) := zx_cv (x0 := 13) (zq_222_1 244 (Nat.le_of_ble_eq_true rfl) (Nat.le_of_ble_eq_true rfl)) rfl rfl rfl rfl ⟨Nat.le_of_ble_eq_true rfl, rfl⟩ (fun _ _ => rfl)
theorem zs_222_247 : zrun zP sv C 222 247 [l0, l1, l2, l3, l4, l5] (.int x :: st) h = if x = 0 then zrun zP sv C 222 260 [l0, l1, l2, l3, l4, l5] st h else zrun zP sv C 222 250 [l0, l1, l2, l3, l4, l5] st h := (zx_if (zq_222_1 247 (Nat.le_of_ble_eq_true rfl) (Nat.le_of_ble_eq_true rfl)) rfl).trans zc0_if
theorem zs_222_250 : zrun zP sv C 222 250 [.val (.ref a), l1, l2, l3, l4, l5] st h = zrun zP sv C 222 251 [.val (.ref a), l1, l2, l3, l4, l5] (.ref a :: st) h := zx_go (zq_222_1 250 (Nat.le_of_ble_eq_true rfl) (Nat.le_of_ble_eq_true rfl)) rfl
theorem zs_222_251 : zrun zP sv C 222 251 [l0, l1, .val (.int x), l3, l4, l5] st h = zrun zP sv C 222 252 [l0, l1, .val (.int x), l3, l4, l5] (.int x :: st) h := zx_go (zq_222_1 251 (Nat.le_of_ble_eq_true rfl) (Nat.le_of_ble_eq_true rfl)) rfl
theorem zs_222_252 : zrun zP sv C 222 252 [l0, l1, l2, l3, l4, .val (.int x)] st h = zrun zP sv C 222 254 [l0, l1, l2, l3, l4, .val (.int x)] (.int x :: st) h := zx_go (zq_222_1 252 (Nat.le_of_ble_eq_true rfl) (Nat.le_of_ble_eq_true rfl)) rfl
theorem zs_222_254 : zrun zP sv C 222 254 [l0, l1, l2, l3, l4, l5] [v2, v1, .ref b] h = zrc (h.1 b) 13 (zbk (C 223 [.ref b, v1, v2] h) (fun v h' => zrun zP sv C 222 257 [l0, l1, l2, l3, l4, l5] (v.toList ++ []) h') (fun E h' => some (.inr E, h'))) := zx_cv (x0 := 13) (zq_222_1 254 (Nat.le_of_ble_eq_true rfl) (Nat.le_of_ble_eq_true rfl)) rfl rfl rfl rfl ⟨Nat.le_of_ble_eq_true rfl, rfl⟩ (fun _ _ => rfl)
theorem zs_222_257 : zrun zP sv C 222 257 [l0, l1, l2, l3, l4, l5] st h = zrun zP sv C 222 380 [l0, l1, l2, l3, l4, l5] st h := zx_go (zq_222_1 257 (Nat.le_of_ble_eq_true rfl) (Nat.le_of_ble_eq_true rfl)) rfl
theorem zs_222_260 : zrun zP sv C 222 260 [l0, l1, l2, .val (.int x), l4, l5] st h = zrun zP sv C 222 261 [l0, l1, l2, .val (.int x), l4, l5] (.int x :: st) h := zx_go (zq_222_1 260 (Nat.le_of_ble_eq_true rfl) (Nat.le_of_ble_eq_true rfl)) rfl
theorem zs_222_261 : zrun zP sv C 222 261 [l0, l1, l2, l3, l4, l5] st h = zrun zP sv C 222 263 [l0, l1, l2, l3, l4, l5] (.int (nI 45) :: st) h := zx_go (zq_222_1 261 (Nat.le_of_ble_eq_true rfl) (Nat.le_of_ble_eq_true rfl)) rfl
theorem zs_222_263 : zrun zP sv C 222 263 [l0, l1, l2, l3, l4, l5] (.int y :: .int x :: st) h = if x = y then zrun zP sv C 222 266 [l0, l1, l2, l3, l4, l5] st h else zrun zP sv C 222 287 [l0, l1, l2, l3, l4, l5] st h := (zx_ic (zq_222_1 263 (Nat.le_of_ble_eq_true rfl) (Nat.le_of_ble_eq_true rfl)) rfl).trans zc1_if
theorem zs_222_266 : zrun zP sv C 222 266 [.val (.ref a), l1, l2, l3, l4, l5] st h = zrun zP sv C 222 267 [.val (.ref a), l1, l2, l3, l4, l5] (.ref a :: st) h := zx_go (zq_222_1 266 (Nat.le_of_ble_eq_true rfl) (Nat.le_of_ble_eq_true rfl)) rfl
theorem zs_222_267 : zrun zP sv C 222 267 [l0, l1, .val (.int x), l3, l4, l5] st h = zrun zP sv C 222 268 [l0, l1, .val (.int x), l3, l4, l5] (.int x :: st) h := zx_go (zq_222_1 267 (Nat.le_of_ble_eq_true rfl) (Nat.le_of_ble_eq_true rfl)) rfl
theorem zs_222_268 : zrun zP sv C 222 268 [l0, l1, l2, l3, l4, l5] st h = zrun zP sv C 222 269 [l0, l1, l2, l3, l4, l5] (.int (nI 1) :: st) h := zx_go (zq_222_1 268 (Nat.le_of_ble_eq_true rfl) (Nat.le_of_ble_eq_true rfl)) rfl
theorem zs_222_269 : zrun zP sv C 222 269 [l0, l1, l2, l3, l4, l5] (.int y :: .int x :: st) h = zrun zP sv C 222 270 [l0, l1, l2, l3, l4, l5] (.int (x + y) :: st) h := zx_go (zq_222_1 269 (Nat.le_of_ble_eq_true rfl) (Nat.le_of_ble_eq_true rfl)) rfl
theorem zs_222_270 : zrun zP sv C 222 270 [l0, l1, l2, l3, l4, .val (.int x)] st h = zrun zP sv C 222 272 [l0, l1, l2, l3, l4, .val (.int x)] (.int x :: st) h := zx_go (zq_222_1 270 (Nat.le_of_ble_eq_true rfl) (Nat.le_of_ble_eq_true rfl)) rfl
theorem zs_222_272 : zrun zP sv C 222 272 [l0, l1, l2, l3, l4, l5] [v2, v1, .ref b] h = zrc (h.1 b) 13 (zbk (C 221 [.ref b, v1, v2] h) (fun v h' => zrun zP sv C 222 275 [l0, l1, l2, l3, l4, l5] (v.toList ++ []) h') (fun E h' => some (.inr E, h'))) := zx_cv (x0 := 13) (zq_222_1 272 (Nat.le_of_ble_eq_true rfl) (Nat.le_of_ble_eq_true rfl)) rfl rfl rfl rfl ⟨Nat.le_of_ble_eq_true rfl, rfl⟩ (fun _ _ => rfl)
theorem zs_222_275 : zrun zP sv C 222 275 [l0, l1, l2, l3, l4, l5] (.int x :: st) h = if x = 0 then zrun zP sv C 222 287 [l0, l1, l2, l3, l4, l5] st h else zrun zP sv C 222 278 [l0, l1, l2, l3, l4, l5] st h := (zx_if (zq_222_1 275 (Nat.le_of_ble_eq_true rfl) (Nat.le_of_ble_eq_true rfl)) rfl).trans zc0_if
theorem zs_222_278 : zrun zP sv C 222 278 [.val (.ref a), l1, l2, l3, l4, l5] st h = zrun zP sv C 222 279 [.val (.ref a), l1, l2, l3, l4, l5] (.ref a :: st) h := zx_go (zq_222_1 278 (Nat.le_of_ble_eq_true rfl) (Nat.le_of_ble_eq_true rfl)) rfl
theorem zs_222_279 : zrun zP sv C 222 279 [l0, l1, .val (.int x), l3, l4, l5] st h = zrun zP sv C 222 280 [l0, l1, .val (.int x), l3, l4, l5] (.int x :: st) h := zx_go (zq_222_1 279 (Nat.le_of_ble_eq_true rfl) (Nat.le_of_ble_eq_true rfl)) rfl
theorem zs_222_280 : zrun zP sv C 222 280 [l0, l1, l2, l3, l4, l5] st h = zrun zP sv C 222 281 [l0, l1, l2, l3, l4, l5] (.int 0 :: st) h := zx_go (zq_222_1 280 (Nat.le_of_ble_eq_true rfl) (Nat.le_of_ble_eq_true rfl)) rfl
theorem zs_222_281 : zrun zP sv C 222 281 [l0, l1, l2, l3, l4, l5] [v2, v1, .ref b] h = zrc (h.1 b) 13 (zbk (C 219 [.ref b, v1, v2] h) (fun v h' => zrun zP sv C 222 284 [l0, l1, l2, l3, l4, l5] (v.toList ++ []) h') (fun E h' => some (.inr E, h'))) := zx_cv (x0 := 13) (zq_222_1 281 (Nat.le_of_ble_eq_true rfl) (Nat.le_of_ble_eq_true rfl)) rfl rfl rfl rfl ⟨Nat.le_of_ble_eq_true rfl, rfl⟩ (fun _ _ => rfl)
theorem zs_222_284 : zrun zP sv C 222 284 [l0, l1, l2, l3, l4, l5] st h = zrun zP sv C 222 380 [l0, l1, l2, l3, l4, l5] st h := zx_go (zq_222_1 284 (Nat.le_of_ble_eq_true rfl) (Nat.le_of_ble_eq_true rfl)) rfl
theorem zs_222_287 : zrun zP sv C 222 287 [l0, l1, l2, .val (.int x), l4, l5] st h = zrun zP sv C 222 288 [l0, l1, l2, .val (.int x), l4, l5] (.int x :: st) h := zx_go (zq_222_1 287 (Nat.le_of_ble_eq_true rfl) (Nat.le_of_ble_eq_true rfl)) rfl
theorem zs_222_288 : zrun zP sv C 222 288 [l0, l1, l2, l3, l4, l5] st h = zrun zP sv C 222 290 [l0, l1, l2, l3, l4, l5] (.int (nI 42) :: st) h := zx_go (zq_222_1 288 (Nat.le_of_ble_eq_true rfl) (Nat.le_of_ble_eq_true rfl)) rfl
theorem zs_222_290 : zrun zP sv C 222 290 [l0, l1, l2, l3, l4, l5] (.int y :: .int x :: st) h = if x = y then zrun zP sv C 222 293 [l0, l1, l2, l3, l4, l5] st h else zrun zP sv C 222 323 [l0, l1, l2, l3, l4, l5] st h := (zx_ic (zq_222_1 290 (Nat.le_of_ble_eq_true rfl) (Nat.le_of_ble_eq_true rfl)) rfl).trans zc1_if
theorem zs_222_293 : zrun zP sv C 222 293 [.val (.ref a), l1, l2, l3, l4, l5] st h = zrun zP sv C 222 294 [.val (.ref a), l1, l2, l3, l4, l5] (.ref a :: st) h := zx_go (zq_222_1 293 (Nat.le_of_ble_eq_true rfl) (Nat.le_of_ble_eq_true rfl)) rfl
theorem zs_222_294 : zrun zP sv C 222 294 [l0, l1, .val (.int x), l3, l4, l5] st h = zrun zP sv C 222 295 [l0, l1, .val (.int x), l3, l4, l5] (.int x :: st) h := zx_go (zq_222_1 294 (Nat.le_of_ble_eq_true rfl) (Nat.le_of_ble_eq_true rfl)) rfl
theorem zs_222_295 : zrun zP sv C 222 295 [l0, l1, l2, l3, l4, l5] st h = zrun zP sv C 222 296 [l0, l1, l2, l3, l4, l5] (.int (nI 1) :: st) h := zx_go (zq_222_1 295 (Nat.le_of_ble_eq_true rfl) (Nat.le_of_ble_eq_true rfl)) rfl
theorem zs_222_296 : zrun zP sv C 222 296 [l0, l1, l2, l3, l4, l5] (.int y :: .int x :: st) h = zrun zP sv C 222 297 [l0, l1, l2, l3, l4, l5] (.int (x + y) :: st) h := zx_go (zq_222_1 296 (Nat.le_of_ble_eq_true rfl) (Nat.le_of_ble_eq_true rfl)) rfl
theorem zs_222_297 : zrun zP sv C 222 297 [l0, l1, l2, l3, l4, l5] st h = zrun zP sv C 222 298 [l0, l1, l2, l3, l4, l5] (.int 0 :: st) h := zx_go (zq_222_1 297 (Nat.le_of_ble_eq_true rfl) (Nat.le_of_ble_eq_true rfl)) rfl
theorem zs_222_298 : zrun zP sv C 222 298 [l0, l1, l2, l3, l4, l5] [v2, v1, .ref b] h = zrc (h.1 b) 13 (zbk (C 220 [.ref b, v1, v2] h) (fun v h' => zrun zP sv C 222 301 [l0, l1, l2, l3, l4, l5] (v.toList ++ []) h') (fun E h' => some (.inr E, h'))) := zx_cv (x0 := 13) (zq_222_1 298 (Nat.le_of_ble_eq_true rfl) (Nat.le_of_ble_eq_true rfl)) rfl rfl rfl rfl ⟨Nat.le_of_ble_eq_true rfl, rfl⟩ (fun _ _ => rfl)
theorem zs_222_301 : zrun zP sv C 222 301 [l0, l1, l2, l3, l4, l5] (.int x :: st) h = if x = 0 then zrun zP sv C 222 304 [l0, l1, l2, l3, l4, l5] st h else zrun zP sv C 222 314 [l0, l1, l2, l3, l4, l5] st h := (zx_if (zq_222_1 301 (Nat.le_of_ble_eq_true rfl) (Nat.le_of_ble_eq_true rfl)) rfl).trans zc1_if
theorem zs_222_304 : zrun zP sv C 222 304 [.val (.ref a), l1, l2, l3, l4, l5] st h = zrun zP sv C 222 305 [.val (.ref a), l1, l2, l3, l4, l5] (.ref a :: st) h := zx_go (zq_222_1 304 (Nat.le_of_ble_eq_true rfl) (Nat.le_of_ble_eq_true rfl)) rfl
theorem zs_222_305 : zrun zP sv C 222 305 [l0, l1, l2, l3, l4, .val (.int x)] st h = zrun zP sv C 222 307 [l0, l1, l2, l3, l4, .val (.int x)] (.int x :: st) h := zx_go (zq_222_1 305 (Nat.le_of_ble_eq_true rfl) (Nat.le_of_ble_eq_true rfl)) rfl
theorem zs_222_307 : zrun zP sv C 222 307 [l0, l1, l2, l3, l4, l5] st h = zrun zP sv C 222 308 [l0, l1, l2, l3, l4, l5] (.int 0 :: st) h := zx_go (zq_222_1 307 (Nat.le_of_ble_eq_true rfl) (Nat.le_of_ble_eq_true rfl)) rfl
theorem zs_222_308 : zrun zP sv C 222 308 [l0, l1, l2, l3, l4, l5] [v2, v1, .ref b] h = zrc (h.1 b) 13 (zbk (C 220 [.ref b, v1, v2] h) (fun v h' => zrun zP sv C 222 311 [l0, l1, l2, l3, l4, l5] (v.toList ++ []) h') (fun E h' => some (.inr E, h'))) := zx_cv (x0 := 13) (zq_222_1 308 (Nat.le_of_ble_eq_true rfl) (Nat.le_of_ble_eq_true rfl)) rfl rfl rfl rfl ⟨Nat.le_of_ble_eq_true rfl, rfl⟩ (fun _ _ => rfl)
theorem zs_222_311 : zrun zP sv C 222 311 [l0, l1, l2, l3, l4, l5] (.int x :: st) h = if x = 0 then zrun zP sv C 222 323 [l0, l1, l2, l3, l4, l5] st h else zrun zP sv C 222 314 [l0, l1, l2, l3, l4, l5] st h := (zx_if (zq_222_1 311 (Nat.le_of_ble_eq_true rfl) (Nat.le_of_ble_eq_true rfl)) rfl).trans zc0_if
theorem zs_222_314 : zrun zP sv C 222 314 [.val (.ref a), l1, l2, l3, l4, l5] st h = zrun zP sv C 222 315 [.val (.ref a), l1, l2, l3, l4, l5] (.ref a :: st) h := zx_go (zq_222_1 314 (Nat.le_of_ble_eq_true rfl) (Nat.le_of_ble_eq_true rfl)) rfl
theorem zs_222_315 : zrun zP sv C 222 315 [l0, l1, .val (.int x), l3, l4, l5] st h = zrun zP sv C 222 316 [l0, l1, .val (.int x), l3, l4, l5] (.int x :: st) h := zx_go (zq_222_1 315 (Nat.le_of_ble_eq_true rfl) (Nat.le_of_ble_eq_true rfl)) rfl
theorem zs_222_316 : zrun zP sv C 222 316 [l0, l1, l2, l3, l4, l5] st h = zrun zP sv C 222 317 [l0, l1, l2, l3, l4, l5] (.int 0 :: st) h := zx_go (zq_222_1 316 (Nat.le_of_ble_eq_true rfl) (Nat.le_of_ble_eq_true rfl)) rfl
theorem zs_222_317 : zrun zP sv C 222 317 [l0, l1, l2, l3, l4, l5] [v2, v1, .ref b] h = zrc (h.1 b) 13 (zbk (C 219 [.ref b, v1, v2] h) (fun v h' => zrun zP sv C 222 320 [l0, l1, l2, l3, l4, l5] (v.toList ++ []) h') (fun E h' => some (.inr E, h'))) := zx_cv (x0 := 13) (zq_222_1 317 (Nat.le_of_ble_eq_true rfl) (Nat.le_of_ble_eq_true rfl)) rfl rfl rfl rfl ⟨Nat.le_of_ble_eq_true rfl, rfl⟩ (fun _ _ => rfl)
theorem zs_222_320 : zrun zP sv C 222 320 [l0, l1, l2, l3, l4, l5] st h = zrun zP sv C 222 380 [l0, l1, l2, l3, l4, l5] st h := zx_go (zq_222_1 320 (Nat.le_of_ble_eq_true rfl) (Nat.le_of_ble_eq_true rfl)) rfl
theorem zs_222_323 : zrun zP sv C 222 323 [l0, l1, l2, .val (.int x), l4, l5] st h = zrun zP sv C 222 324 [l0, l1, l2, .val (.int x), l4, l5] (.int x :: st) h := zx_go (zq_222_1 323 (Nat.le_of_ble_eq_true rfl) (Nat.le_of_ble_eq_true rfl)) rfl
theorem zs_222_324 : zrun zP sv C 222 324 [l0, l1, l2, l3, l4, l5] st h = zrun zP sv C 222 326 [l0, l1, l2, l3, l4, l5] (.int (nI 42) :: st) h := zx_go (zq_222_1 324 (Nat.le_of_ble_eq_true rfl) (Nat.le_of_ble_eq_true rfl)) rfl
theorem zs_222_326 : zrun zP sv C 222 326 [l0, l1, l2, l3, l4, l5] (.int y :: .int x :: st) h = if x = y then zrun zP sv C 222 329 [l0, l1, l2, l3, l4, l5] st h else zrun zP sv C 222 354 [l0, l1, l2, l3, l4, l5] st h := (zx_ic (zq_222_1 326 (Nat.le_of_ble_eq_true rfl) (Nat.le_of_ble_eq_true rfl)) rfl).trans zc1_if
theorem zs_222_329 : zrun zP sv C 222 329 [.val (.ref a), l1, l2, l3, l4, l5] st h = zrun zP sv C 222 330 [.val (.ref a), l1, l2, l3, l4, l5] (.ref a :: st) h := zx_go (zq_222_1 329 (Nat.le_of_ble_eq_true rfl) (Nat.le_of_ble_eq_true rfl)) rfl
theorem zs_222_330 : zrun zP sv C 222 330 [l0, l1, .val (.int x), l3, l4, l5] st h = zrun zP sv C 222 331 [l0, l1, .val (.int x), l3, l4, l5] (.int x :: st) h := zx_go (zq_222_1 330 (Nat.le_of_ble_eq_true rfl) (Nat.le_of_ble_eq_true rfl)) rfl
theorem zs_222_331 : zrun zP sv C 222 331 [l0, l1, l2, l3, l4, l5] st h = zrun zP sv C 222 332 [l0, l1, l2, l3, l4, l5] (.int (nI 1) :: st) h := zx_go (zq_222_1 331 (Nat.le_of_ble_eq_true rfl) (Nat.le_of_ble_eq_true rfl)) rfl
theorem zs_222_332 : zrun zP sv C 222 332 [l0, l1, l2, l3, l4, l5] (.int y :: .int x :: st) h = zrun zP sv C 222 333 [l0, l1, l2, l3, l4, l5] (.int (x + y) :: st) h := zx_go (zq_222_1 332 (Nat.le_of_ble_eq_true rfl) (Nat.le_of_ble_eq_true rfl)) rfl
theorem zs_222_333 : zrun zP sv C 222 333 [l0, l1, l2, l3, l4, l5] st h = zrun zP sv C 222 334 [l0, l1, l2, l3, l4, l5] (.int (nI 1) :: st) h := zx_go (zq_222_1 333 (Nat.le_of_ble_eq_true rfl) (Nat.le_of_ble_eq_true rfl)) rfl
theorem zs_222_334 : zrun zP sv C 222 334 [l0, l1, l2, l3, l4, l5] [v2, v1, .ref b] h = zrc (h.1 b) 13 (zbk (C 220 [.ref b, v1, v2] h) (fun v h' => zrun zP sv C 222 337 [l0, l1, l2, l3, l4, l5] (v.toList ++ []) h') (fun E h' => some (.inr E, h'))) := zx_cv (x0 := 13) (zq_222_1 334 (Nat.le_of_ble_eq_true rfl) (Nat.le_of_ble_eq_true rfl)) rfl rfl rfl rfl ⟨Nat.le_of_ble_eq_true rfl, rfl⟩ (fun _ _ => rfl)
theorem zs_222_337 : zrun zP sv C 222 337 [l0, l1, l2, l3, l4, l5] (.int x :: st) h = if x = 0 then zrun zP sv C 222 354 [l0, l1, l2, l3, l4, l5] st h else zrun zP sv C 222 340 [l0, l1, l2, l3, l4, l5] st h := (zx_if (zq_222_1 337 (Nat.le_of_ble_eq_true rfl) (Nat.le_of_ble_eq_true rfl)) rfl).trans zc0_if
theorem zs_222_340 : zrun zP sv C 222 340 [.val (.ref a), l1, l2, l3, l4, l5] st h = zrun zP sv C 222 341 [.val (.ref a), l1, l2, l3, l4, l5] (.ref a :: st) h := zx_go (zq_222_1 340 (Nat.le_of_ble_eq_true rfl) (Nat.le_of_ble_eq_true rfl)) rfl
theorem zs_222_341 : zrun zP sv C 222 341 [l0, l1, .val (.int x), l3, l4, l5] st h = zrun zP sv C 222 342 [l0, l1, .val (.int x), l3, l4, l5] (.int x :: st) h := zx_go (zq_222_1 341 (Nat.le_of_ble_eq_true rfl) (Nat.le_of_ble_eq_true rfl)) rfl
theorem zs_222_342 : zrun zP sv C 222 342 [l0, l1, l2, l3, l4, .val (.int x)] st h = zrun zP sv C 222 344 [l0, l1, l2, l3, l4, .val (.int x)] (.int x :: st) h := zx_go (zq_222_2 342 (Nat.le_of_ble_eq_true rfl) (Nat.le_of_ble_eq_true rfl)) rfl
theorem zs_222_344 : zrun zP sv C 222 344 [.val (.ref a), l1, l2, l3, l4, l5] st h = zrun zP sv C 222 345 [.val (.ref a), l1, l2, l3, l4, l5] (.ref a :: st) h := zx_go (zq_222_2 344 (Nat.le_of_ble_eq_true rfl) (Nat.le_of_ble_eq_true rfl)) rfl
theorem zs_222_345 : zrun zP sv C 222 345 [l0, l1, l2, l3, l4, l5] (.ref a :: st) h = zfld (h.1 a) 13 11 (fun v => zrun zP sv C 222 348 [l0, l1, l2, l3, l4, l5] (v :: st) h) := zx_getf (zq_222_2 345 (Nat.le_of_ble_eq_true rfl) (Nat.le_of_ble_eq_true rfl)) rfl
theorem zs_222_348 : zrun zP sv C 222 348 [l0, l1, l2, l3, l4, l5] [v3, v2, v1, .ref b] h = zrc (h.1 b) 13 (zbk (C 218 [.ref b, v1, v2, v3] h) (fun v h' => zrun zP sv C 222 351 [l0, l1, l2, l3, l4, l5] (v.toList ++ []) h') (fun E h' => some (.inr E, h'))) := zx_cv (x0 := 13) (zq_222_2 348 (Nat.le_of_ble_eq_true rfl) (Nat.le_of_ble_eq_true rfl)) rfl rfl rfl rfl ⟨Nat.le_of_ble_eq_true rfl, rfl⟩ (fun _ _ => rfl)
theorem zs_222_351 : zrun zP sv C 222 351 [l0, l1, l2, l3, l4, l5] st h = zrun zP sv C 222 380 [l0, l1, l2, l3, l4, l5] st h := zx_go (zq_222_2 351 (Nat.le_of_ble_eq_true rfl) (Nat.le_of_ble_eq_true rfl)) rfl
theorem zs_222_354 : zrun zP sv C 222 354 [l0, l1, l2, .val (.int x), l4, l5] st h = zrun zP sv C 222 355 [l0, l1, l2, .val (.int x), l4, l5] (.int x :: st) h := zx_go (zq_222_2 354 (Nat.le_of_ble_eq_true rfl) (Nat.le_of_ble_eq_true rfl)) rfl
theorem zs_222_355 : zrun zP sv C 222 355 [l0, l1, l2, l3, l4, l5] st h = zrun zP sv C 222 357 [l0, l1, l2, l3, l4, l5] (.int (nI 42) :: st) h := zx_go (zq_222_2 355 (Nat.le_of_ble_eq_true rfl) (Nat.le_of_ble_eq_true rfl)) rfl
theorem zs_222_357 : zrun zP sv C 222 357 [l0, l1, l2, l3, l4, l5] (.int y :: .int x :: st) h = if x = y then zrun zP sv C 222 360 [l0, l1, l2, l3, l4, l5] st h else zrun zP sv C 222 380 [l0, l1, l2, l3, l4, l5] st h := (zx_ic (zq_222_2 357 (Nat.le_of_ble_eq_true rfl) (Nat.le_of_ble_eq_true rfl)) rfl).trans zc1_if
theorem zs_222_360 : zrun zP sv C 222 360 [.val (.ref a), l1, l2, l3, l4, l5] st h = zrun zP sv C 222 361 [.val (.ref a), l1, l2, l3, l4, l5] (.ref a :: st) h := zx_go (zq_222_2 360 (Nat.le_of_ble_eq_true rfl) (Nat.le_of_ble_eq_true rfl)) rfl
theorem zs_222_361 : zrun zP sv C 222 361 [l0, l1, l2, l3, l4, .val (.int x)] st h = zrun zP sv C 222 363 [l0, l1, l2, l3, l4, .val (.int x)] (.int x :: st) h := zx_go (zq_222_2 361 (Nat.le_of_ble_eq_true rfl) (Nat.le_of_ble_eq_true rfl)) rfl
theorem zs_222_363 : zrun zP sv C 222 363 [l0, l1, l2, l3, l4, l5] st h = zrun zP sv C 222 364 [l0, l1, l2, l3, l4, l5] (.int (nI 1) :: st) h := zx_go (zq_222_2 363 (Nat.le_of_ble_eq_true rfl) (Nat.le_of_ble_eq_true rfl)) rfl
theorem zs_222_364 : zrun zP sv C 222 364 [l0, l1, l2, l3, l4, l5] [v2, v1, .ref b] h = zrc (h.1 b) 13 (zbk (C 220 [.ref b, v1, v2] h) (fun v h' => zrun zP sv C 222 367 [l0, l1, l2, l3, l4, l5] (v.toList ++ []) h') (fun E h' => some (.inr E, h'))) := zx_cv (x0 := 13) (zq_222_2 364 (Nat.le_of_ble_eq_true rfl) (Nat.le_of_ble_eq_true rfl)) rfl rfl rfl rfl ⟨Nat.le_of_ble_eq_true rfl, rfl⟩ (fun _ _ => rfl)
theorem zs_222_367 : zrun zP sv C 222 367 [l0, l1, l2, l3, l4, l5] (.int x :: st) h = if x = 0 then zrun zP sv C 222 380 [l0, l1, l2, l3, l4, l5] st h else zrun zP sv C 222 370 [l0, l1, l2, l3, l4, l5] st h := (zx_if (zq_222_2 367 (Nat.le_of_ble_eq_true rfl) (Nat.le_of_ble_eq_true rfl)) rfl).trans zc0_if
theorem zs_222_370 : zrun zP sv C 222 370 [.val (.ref a), l1, l2, l3, l4, l5] st h = zrun zP sv C 222 371 [.val (.ref a), l1, l2, l3, l4, l5] (.ref a :: st) h := zx_go (zq_222_2 370 (Nat.le_of_ble_eq_true rfl) (Nat.le_of_ble_eq_true rfl)) rfl
theorem zs_222_371 : zrun zP sv C 222 371 [l0, l1, .val (.int x), l3, l4, l5] st h = zrun zP sv C 222 372 [l0, l1, .val (.int x), l3, l4, l5] (.int x :: st) h := zx_go (zq_222_2 371 (Nat.le_of_ble_eq_true rfl) (Nat.le_of_ble_eq_true rfl)) rfl
theorem zs_222_372 : zrun zP sv C 222 372 [l0, l1, .val (.int x), l3, l4, l5] st h = zrun zP sv C 222 373 [l0, l1, .val (.int x), l3, l4, l5] (.int x :: st) h := zx_go (zq_222_2 372 (Nat.le_of_ble_eq_true rfl) (Nat.le_of_ble_eq_true rfl)) rfl
theorem zs_222_373 : zrun zP sv C 222 373 [l0, l1, l2, l3, l4, l5] st h = zrun zP sv C 222 374 [l0, l1, l2, l3, l4, l5] (.int (nI 1) :: st) h := zx_go (zq_222_2 373 (Nat.le_of_ble_eq_true rfl) (Nat.le_of_ble_eq_true rfl)) rfl
theorem zs_222_374 : zrun zP sv C 222 374 [l0, l1, l2, l3, l4, l5] (.int y :: .int x :: st) h = zrun zP sv C 222 375 [l0, l1, l2, l3, l4, l5] (.int (x + y) :: st) h := zx_go (zq_222_2 374 (Nat.le_of_ble_eq_true rfl) (Nat.le_of_ble_eq_true rfl)) rfl
theorem zs_222_375 : zrun zP sv C 222 375 [l0, l1, l2, l3, l4, .val (.int x)] st h = zrun zP sv C 222 377 [l0, l1, l2, l3, l4, .val (.int x)] (.int x :: st) h := zx_go (zq_222_2 375 (Nat.le_of_ble_eq_true rfl) (Nat.le_of_ble_eq_true rfl)) rfl
theorem zs_222_377 : zrun zP sv C 222 377 [l0, l1, l2, l3, l4, l5] [v3, v2, v1, .ref b] h = zrc (h.1 b) 13 (zbk (C 218 [.ref b, v1, v2, v3] h) (fun v h' => zrun zP sv C 222 380 [l0, l1, l2, l3, l4, l5] (v.toList ++ []) h') (fun E h' => some (.inr E, h'))) := zx_cv (x0 := 13) (zq_222_2 377 (Nat.le_of_ble_eq_true rfl) (Nat.le_of_ble_eq_true rfl)) rfl rfl rfl rfl ⟨Nat.le_of_ble_eq_true rfl, rfl⟩ (fun _ _ => rfl)
theorem zs_222_380 : zrun zP sv C 222 380 [l0, l1, l2, l3, .val (.int x), l5] st h = zrun zP sv C 222 382 [l0, l1, l2, l3, .val (.int x), l5] (.int x :: st) h := zx_go (zq_222_2 380 (Nat.le_of_ble_eq_true rfl) (Nat.le_of_ble_eq_true rfl)) rfl
theorem zs_222_382 : zrun zP sv C 222 382 [l0, l1, l2, l3, l4, l5] [.int x] h = some (.inl (some (.int x)), h) := zx_end (zq_222_2 382 (Nat.le_of_ble_eq_true rfl) (Nat.le_of_ble_eq_true rfl)) rfl
theorem zs_223_0 : zrun zP sv C 223 0 [.val (.ref a), l1, l2] st h = zrun zP sv C 223 1 [.val (.ref a), l1, l2] (.ref a :: st) h := zx_go rfl rfl
theorem zs_223_1 : zrun zP sv C 223 1 [l0, l1, l2] (.ref a :: st) h = zfld (h.1 a) 13 9 (fun v => zrun zP sv C 223 4 [l0, l1, l2] (v :: st) h) := zx_getf rfl rfl
theorem zs_223_4 : zrun zP sv C 223 4 [l0, l1, .val (.int x)] st h = zrun zP sv C 223 5 [l0, l1, .val (.int x)] (.int x :: st) h := zx_go rfl rfl
theorem zs_223_5 : zrun zP sv C 223 5 [l0, l1, l2] (.int x :: .ref a :: st) h = zael (h.1 a) 21 x (fun v => zrun zP sv C 223 6 [l0, l1, l2] (v :: st) h) := zx_ald rfl rfl
theorem zs_223_6 : zrun zP sv C 223 6 [l0, l1, l2] st h = zrun zP sv C 223 8 [l0, l1, l2] (.int (nI 110) :: st) h := zx_go rfl rfl
theorem zs_223_8 : zrun zP sv C 223 8 [l0, l1, l2] (.int y :: .int x :: st) h = if x = y then zrun zP sv C 223 11 [l0, l1, l2] st h else zrun zP sv C 223 26 [l0, l1, l2] st h := (zx_ic rfl rfl).trans zc1_if
theorem zs_223_11 : zrun zP sv C 223 11 [.val (.ref a), l1, l2] st h = zrun zP sv C 223 12 [.val (.ref a), l1, l2] (.ref a :: st) h := zx_go rfl rfl
theorem zs_223_12 : zrun zP sv C 223 12 [l0, .val (.int x), l2] st h = zrun zP sv C 223 13 [l0, .val (.int x), l2] (.int x :: st) h := zx_go rfl rfl
theorem zs_223_13 : zrun zP sv C 223 13 [l0, l1, .val (.int x)] st h = zrun zP sv C 223 14 [l0, l1, .val (.int x)] (.int x :: st) h := zx_go rfl rfl
theorem zs_223_14 : zrun zP sv C 223 14 [l0, l1, l2] st h = zrun zP sv C 223 15 [l0, l1, l2] (.int (nI 1) :: st) h := zx_go rfl rfl
theorem zs_223_15 : zrun zP sv C 223 15 [l0, l1, l2] (.int y :: .int x :: st) h = zrun zP sv C 223 16 [l0, l1, l2] (.int (x + y) :: st) h := zx_go rfl rfl
theorem zs_223_16 : zrun zP sv C 223 16 [.val (.ref a), l1, l2] st h = zrun zP sv C 223 17 [.val (.ref a), l1, l2] (.ref a :: st) h := zx_go rfl rfl
theorem zs_223_17 : zrun zP sv C 223 17 [l0, l1, l2] (.ref a :: st) h = zfld (h.1 a) 13 11 (fun v => zrun zP sv C 223 20 [l0, l1, l2] (v :: st) h) := zx_getf rfl rfl
theorem zs_223_20 : zrun zP sv C 223 20 [l0, l1, l2] [v3, v2, v1, .ref b] h = zrc (h.1 b) 13 (zbk (C 218 [.ref b, v1, v2, v3] h) (fun v h' => zrun zP sv C 223 23 [l0, l1, l2] (v.toList ++ []) h') (fun E h' => some (.inr E, h'))) := zx_cv (x0 := 13) rfl rfl rfl rfl rfl ⟨Nat.le_of_ble_eq_true rfl, rfl⟩ (fun _ _ => rfl)
theorem zs_223_23 : zrun zP sv C 223 23 [l0, l1, l2] st h = zrun zP sv C 223 53 [l0, l1, l2] st h := zx_go rfl rfl
theorem zs_223_26 : zrun zP sv C 223 26 [.val (.ref a), l1, l2] st h = zrun zP sv C 223 27 [.val (.ref a), l1, l2] (.ref a :: st) h := zx_go rfl rfl
theorem zs_223_27 : zrun zP sv C 223 27 [l0, l1, l2] (.ref a :: st) h = zfld (h.1 a) 13 9 (fun v => zrun zP sv C 223 30 [l0, l1, l2] (v :: st) h) := zx_getf rfl rfl
theorem zs_223_30 : zrun zP sv C 223 30 [l0, .val (.int x), l2] st h = zrun zP sv C 223 31 [l0, .val (.int x), l2] (.int x :: st) h := zx_go rfl rfl
theorem zs_223_31 : zrun zP sv C 223 31 [l0, l1, l2] st h = zrun zP sv C 223 33 [l0, l1, l2] (.int (nI 110) :: st) h := zx_go rfl rfl
theorem zs_223_33 : zrun zP sv C 223 33 [l0, l1, l2] (.int y :: .int x :: .ref a :: st) h = zaset (h.1 a) 21 x (.int y) (fun c => zrun zP sv C 223 34 [l0, l1, l2] st (zup h a c)) := zx_ast rfl rfl
theorem zs_223_34 : zrun zP sv C 223 34 [.val (.ref a), l1, l2] st h = zrun zP sv C 223 35 [.val (.ref a), l1, l2] (.ref a :: st) h := zx_go rfl rfl
theorem zs_223_35 : zrun zP sv C 223 35 [l0, l1, l2] (.ref a :: st) h = zfld (h.1 a) 13 10 (fun v => zrun zP sv C 223 38 [l0, l1, l2] (v :: st) h) := zx_getf rfl rfl
theorem zs_223_38 : zrun zP sv C 223 38 [l0, .val (.int x), l2] st h = zrun zP sv C 223 39 [l0, .val (.int x), l2] (.int x :: st) h := zx_go rfl rfl
theorem zs_223_39 : zrun zP sv C 223 39 [l0, l1, l2] st h = zrun zP sv C 223 40 [l0, l1, l2] (.int 0 :: st) h := zx_go rfl rfl
theorem zs_223_40 : zrun zP sv C 223 40 [l0, l1, l2] (.int y :: .int x :: .ref a :: st) h = zaset (h.1 a) 20 x (.int y) (fun c => zrun zP sv C 223 41 [l0, l1, l2] st (zup h a c)) := zx_ast rfl rfl
theorem zs_223_41 : zrun zP sv C 223 41 [.val (.ref a), l1, l2] st h = zrun zP sv C 223 42 [.val (.ref a), l1, l2] (.ref a :: st) h := zx_go rfl rfl
theorem zs_223_42 : zrun zP sv C 223 42 [l0, .val (.int x), l2] st h = zrun zP sv C 223 43 [l0, .val (.int x), l2] (.int x :: st) h := zx_go rfl rfl
theorem zs_223_43 : zrun zP sv C 223 43 [l0, l1, l2] st h = zrun zP sv C 223 44 [l0, l1, l2] (.int (nI 1) :: st) h := zx_go rfl rfl
theorem zs_223_44 : zrun zP sv C 223 44 [l0, l1, l2] (.int y :: .int x :: st) h = zrun zP sv C 223 45 [l0, l1, l2] (.int (x + y) :: st) h := zx_go rfl rfl
theorem zs_223_45 : zrun zP sv C 223 45 [l0, l1, .val (.int x)] st h = zrun zP sv C 223 46 [l0, l1, .val (.int x)] (.int x :: st) h := zx_go rfl rfl
theorem zs_223_46 : zrun zP sv C 223 46 [.val (.ref a), l1, l2] st h = zrun zP sv C 223 47 [.val (.ref a), l1, l2] (.ref a :: st) h := zx_go rfl rfl
theorem zs_223_47 : zrun zP sv C 223 47 [l0, l1, l2] (.ref a :: st) h = zfld (h.1 a) 13 11 (fun v => zrun zP sv C 223 50 [l0, l1, l2] (v :: st) h) := zx_getf rfl rfl
theorem zs_223_50 : zrun zP sv C 223 50 [l0, l1, l2] [v3, v2, v1, .ref b] h = zrc (h.1 b) 13 (zbk (C 218 [.ref b, v1, v2, v3] h) (fun v h' => zrun zP sv C 223 53 [l0, l1, l2] (v.toList ++ []) h') (fun E h' => some (.inr E, h'))) := zx_cv (x0 := 13) rfl rfl rfl rfl rfl ⟨Nat.le_of_ble_eq_true rfl, rfl⟩ (fun _ _ => rfl)
theorem zs_223_53 : zrun zP sv C 223 53 [l0, l1, l2] [] h = some (.inl none, h) := zx_end rfl rfl
theorem zs_224_0 : zrun zP sv C 224 0 [.val (.ref a), l1, l2, l3, l4] st h = zrun zP sv C 224 1 [.val (.ref a), l1, l2, l3, l4] (.ref a :: st) h := zx_go rfl rfl
theorem zs_224_1 : zrun zP sv C 224 1 [l0, l1, l2, l3, l4] (.ref a :: st) h = zfld (h.1 a) 13 6 (fun v => zrun zP sv C 224 4 [l0, l1, l2, l3, l4] (v :: st) h) := zx_getf rfl rfl
theorem zs_224_4 : zrun zP sv C 224 4 [l0, .val (.int x), l2, l3, l4] st h = zrun zP sv C 224 5 [l0, .val (.int x), l2, l3, l4] (.int x :: st) h := zx_go rfl rfl
theorem zs_224_5 : zrun zP sv C 224 5 [l0, l1, l2, l3, l4] (.int x :: .ref a :: st) h = zael (h.1 a) 21 x (fun v => zrun zP sv C 224 6 [l0, l1, l2, l3, l4] (v :: st) h) := zx_ald rfl rfl
theorem zs_224_6 : zrun zP sv C 224 6 [l0, l1, l2, l3, l4] (.int x :: st) h = zrun zP sv C 224 (zswp (zP.2.2.2.1 2) 162 x) [l0, l1, l2, l3, l4] st h := zx_sw rfl
theorem zs_224_48 : zrun zP sv C 224 48 [.val (.ref a), l1, l2, l3, l4] st h = zrun zP sv C 224 49 [.val (.ref a), l1, l2, l3, l4] (.ref a :: st) h := zx_go rfl rfl
theorem zs_224_49 : zrun zP sv C 224 49 [l0, l1, l2, l3, l4] st h = zrun zP sv C 224 51 [l0, l1, l2, l3, l4] (.int (nI 99) :: st) h := zx_go rfl rfl
theorem zs_224_51 : zrun zP sv C 224 51 [.val (.ref a), l1, l2, l3, l4] st h = zrun zP sv C 224 52 [.val (.ref a), l1, l2, l3, l4] (.ref a :: st) h := zx_go rfl rfl
theorem zs_224_52 : zrun zP sv C 224 52 [l0, l1, l2, l3, l4] (.ref a :: st) h = zfld (h.1 a) 13 6 (fun v => zrun zP sv C 224 55 [l0, l1, l2, l3, l4] (v :: st) h) := zx_getf rfl rfl
theorem zs_224_55 : zrun zP sv C 224 55 [l0, .val (.int x), l2, l3, l4] st h = zrun zP sv C 224 56 [l0, .val (.int x), l2, l3, l4] (.int x :: st) h := zx_go rfl rfl
theorem zs_224_56 : zrun zP sv C 224 56 [l0, l1, l2, l3, l4] (.int x :: .ref a :: st) h = zael (h.1 a) 21 x (fun v => zrun zP sv C 224 57 [l0, l1, l2, l3, l4] (v :: st) h) := zx_ald rfl rfl
theorem zs_224_57 : zrun zP sv C 224 57 [l0, l1, l2, l3, l4] st h = zrun zP sv C 224 59 [l0, l1, l2, l3, l4] (.int (nI 118) :: st) h := zx_go rfl rfl
theorem zs_224_59 : zrun zP sv C 224 59 [l0, l1, l2, l3, l4] (.int y :: .int x :: st) h = if x = y then zrun zP sv C 224 62 [l0, l1, l2, l3, l4] st h else zrun zP sv C 224 76 [l0, l1, l2, l3, l4] st h := (zx_ic rfl rfl).trans zc1_if
theorem zs_224_62 : zrun zP sv C 224 62 [.val (.ref a), l1, l2, l3, l4] st h = zrun zP sv C 224 63 [.val (.ref a), l1, l2, l3, l4] (.ref a :: st) h := zx_go rfl rfl
theorem zs_224_63 : zrun zP sv C 224 63 [l0, l1, l2, l3, l4] (.ref a :: st) h = zfld (h.1 a) 13 7 (fun v => zrun zP sv C 224 66 [l0, l1, l2, l3, l4] (v :: st) h) := zx_getf rfl rfl
theorem zs_224_66 : zrun zP sv C 224 66 [l0, .val (.int x), l2, l3, l4] st h = zrun zP sv C 224 67 [l0, .val (.int x), l2, l3, l4] (.int x :: st) h := zx_go rfl rfl
theorem zs_224_67 : zrun zP sv C 224 67 [l0, l1, l2, l3, l4] (.int x :: .ref a :: st) h = zael (h.1 a) 20 x (fun v => zrun zP sv C 224 68 [l0, l1, l2, l3, l4] (v :: st) h) := zx_ald rfl rfl
theorem zs_224_68 : zrun zP sv C 224 68 [l0, l1, .val (.int x), l3, l4] st h = zrun zP sv C 224 69 [l0, l1, .val (.int x), l3, l4] (.int x :: st) h := zx_go rfl rfl
theorem zs_224_69 : zrun zP sv C 224 69 [l0, l1, l2, l3, l4] (.int y :: .int x :: st) h = if x = y then zrun zP sv C 224 72 [l0, l1, l2, l3, l4] st h else zrun zP sv C 224 76 [l0, l1, l2, l3, l4] st h := (zx_ic rfl rfl).trans zc1_if
theorem zs_224_72 : zrun zP sv C 224 72 [l0, l1, l2, l3, l4] st h = zrun zP sv C 224 73 [l0, l1, l2, l3, l4] (.int (nI 1) :: st) h := zx_go rfl rfl
theorem zs_224_73 : zrun zP sv C 224 73 [l0, l1, l2, l3, l4] st h = zrun zP sv C 224 77 [l0, l1, l2, l3, l4] st h := zx_go rfl rfl
theorem zs_224_76 : zrun zP sv C 224 76 [l0, l1, l2, l3, l4] st h = zrun zP sv C 224 77 [l0, l1, l2, l3, l4] (.int 0 :: st) h := zx_go rfl rfl
theorem zs_224_77 : zrun zP sv C 224 77 [l0, l1, l2, l3, l4] [v2, v1, .ref b] h = zrc (h.1 b) 13 (zbk (C 216 [.ref b, v1, v2] h) (fun v h' => zrun zP sv C 224 80 [l0, l1, l2, l3, l4] (v.toList ++ []) h') (fun E h' => some (.inr E, h'))) := zx_cv (x0 := 13) rfl rfl rfl rfl rfl ⟨Nat.le_of_ble_eq_true rfl, rfl⟩ (fun _ _ => rfl)
theorem zs_224_80 : zrun zP sv C 224 80 [l0, .val (.int x), l2, l3, l4] st h = zrun zP sv C 224 81 [l0, .val (.int x), l2, l3, l4] (.int x :: st) h := zx_go rfl rfl
theorem zs_224_81 : zrun zP sv C 224 81 [l0, l1, l2, l3, l4] st h = zrun zP sv C 224 82 [l0, l1, l2, l3, l4] (.int (nI 1) :: st) h := zx_go rfl rfl
theorem zs_224_82 : zrun zP sv C 224 82 [l0, l1, l2, l3, l4] (.int y :: .int x :: st) h = zrun zP sv C 224 83 [l0, l1, l2, l3, l4] (.int (x + y) :: st) h := zx_go rfl rfl
theorem zs_224_83 : zrun zP sv C 224 83 [l0, l1, l2, l3, l4] [.int x] h = some (.inl (some (.int x)), h) := zx_end rfl rfl
theorem zs_224_84 : zrun zP sv C 224 84 [.val (.ref a), l1, l2, l3, l4] st h = zrun zP sv C 224 85 [.val (.ref a), l1, l2, l3, l4] (.ref a :: st) h := zx_go rfl rfl
theorem zs_224_85 : zrun zP sv C 224 85 [l0, l1, l2, l3, l4] st h = zrun zP sv C 224 87 [l0, l1, l2, l3, l4] (.int (nI 110) :: st) h := zx_go rfl rfl
theorem zs_224_87 : zrun zP sv C 224 87 [l0, l1, l2, l3, l4] st h = zrun zP sv C 224 88 [l0, l1, l2, l3, l4] (.int 0 :: st) h := zx_go rfl rfl
theorem zs_224_88 : zrun zP sv C 224 88 [l0, l1, l2, l3, l4] [v2, v1, .ref b] h = zrc (h.1 b) 13 (zbk (C 216 [.ref b, v1, v2] h) (fun v h' => zrun zP sv C 224 91 [l0, l1, l2, l3, l4] (v.toList ++ []) h') (fun E h' => some (.inr E, h'))) := zx_cv (x0 := 13) rfl rfl rfl rfl rfl ⟨Nat.le_of_ble_eq_true rfl, rfl⟩ (fun _ _ => rfl)
theorem zs_224_91 : zrun zP sv C 224 91 [.val (.ref a), l1, l2, l3, l4] st h = zrun zP sv C 224 92 [.val (.ref a), l1, l2, l3, l4] (.ref a :: st) h := zx_go rfl rfl
theorem zs_224_92 : zrun zP sv C 224 92 [l0, .val (.int x), l2, l3, l4] st h = zrun zP sv C 224 93 [l0, .val (.int x), l2, l3, l4] (.int x :: st) h := zx_go rfl rfl
theorem zs_224_93 : zrun zP sv C 224 93 [l0, l1, l2, l3, l4] st h = zrun zP sv C 224 94 [l0, l1, l2, l3, l4] (.int (nI 1) :: st) h := zx_go rfl rfl
theorem zs_224_94 : zrun zP sv C 224 94 [l0, l1, l2, l3, l4] (.int y :: .int x :: st) h = zrun zP sv C 224 95 [l0, l1, l2, l3, l4] (.int (x + y) :: st) h := zx_go rfl rfl
theorem zs_224_95 : zrun zP sv C 224 95 [l0, l1, .val (.int x), l3, l4] st h = zrun zP sv C 224 96 [l0, l1, .val (.int x), l3, l4] (.int x :: st) h := zx_go rfl rfl
theorem zs_224_96 : zrun zP sv C 224 96 [l0, l1, l2, l3, l4] [v2, v1, .ref b] h = zrc (h.1 b) 13 (zbk (C 224 [.ref b, v1, v2] h) (fun v h' => zrun zP sv C 224 99 [l0, l1, l2, l3, l4] (v.toList ++ []) h') (fun E h' => some (.inr E, h'))) := zx_cv (x0 := 13) rfl rfl rfl rfl rfl ⟨Nat.le_of_ble_eq_true rfl, rfl⟩ (fun _ _ => rfl)
theorem zs_224_99 : zrun zP sv C 224 99 [l0, l1, l2, l3, l4] [.int x] h = some (.inl (some (.int x)), h) := zx_end rfl rfl
theorem zs_224_100 : zrun zP sv C 224 100 [.val (.ref a), l1, l2, l3, l4] st h = zrun zP sv C 224 101 [.val (.ref a), l1, l2, l3, l4] (.ref a :: st) h := zx_go rfl rfl
theorem zs_224_101 : zrun zP sv C 224 101 [l0, .val (.int x), l2, l3, l4] st h = zrun zP sv C 224 102 [l0, .val (.int x), l2, l3, l4] (.int x :: st) h := zx_go rfl rfl
theorem zs_224_102 : zrun zP sv C 224 102 [l0, l1, l2, l3, l4] st h = zrun zP sv C 224 103 [l0, l1, l2, l3, l4] (.int (nI 1) :: st) h := zx_go rfl rfl
theorem zs_224_103 : zrun zP sv C 224 103 [l0, l1, l2, l3, l4] (.int y :: .int x :: st) h = zrun zP sv C 224 104 [l0, l1, l2, l3, l4] (.int (x + y) :: st) h := zx_go rfl rfl
theorem zs_224_104 : zrun zP sv C 224 104 [l0, l1, l2, l3, l4] [v1, .ref b] h = zrc (h.1 b) 13 (zbk (C 209 [.ref b, v1] h) (fun v h' => zrun zP sv C 224 107 [l0, l1, l2, l3, l4] (v.toList ++ []) h') (fun E h' => some (.inr E, h'))) := zx_cv (x0 := 13) rfl rfl rfl rfl rfl ⟨Nat.le_of_ble_eq_true rfl, rfl⟩ (fun _ _ => rfl)
theorem zs_224_107 (hs : znw l3 = true) : zrun zP sv C 224 107 [l0, l1, l2, l3, l4] (.int x :: st) h = zrun zP sv C 224 108 [l0, l1, l2, .val (.int x), l4] st h := zx_st hs rfl rfl rfl rfl rfl rfl
theorem zs_224_108 : zrun zP sv C 224 108 [.val (.ref a), l1, l2, l3, l4] st h = zrun zP sv C 224 109 [.val (.ref a), l1, l2, l3, l4] (.ref a :: st) h := zx_go rfl rfl
theorem zs_224_109 : zrun zP sv C 224 109 [l0, l1, l2, l3, l4] st h = zrun zP sv C 224 111 [l0, l1, l2, l3, l4] (.int (nI 43) :: st) h := zx_go rfl rfl
theorem zs_224_111 : zrun zP sv C 224 111 [l0, l1, l2, l3, l4] st h = zrun zP sv C 224 112 [l0, l1, l2, l3, l4] (.int 0 :: st) h := zx_go rfl rfl
theorem zs_224_112 : zrun zP sv C 224 112 [l0, l1, l2, l3, l4] [v2, v1, .ref b] h = zrc (h.1 b) 13 (zbk (C 216 [.ref b, v1, v2] h) (fun v h' => zrun zP sv C 224 115 [l0, l1, l2, l3, l4] (v.toList ++ []) h') (fun E h' => some (.inr E, h'))) := zx_cv (x0 := 13) rfl rfl rfl rfl rfl ⟨Nat.le_of_ble_eq_true rfl, rfl⟩ (fun _ _ => rfl)
theorem zs_224_115 : zrun zP sv C 224 115 [.val (.ref a), l1, l2, l3, l4] st h = zrun zP sv C 224 116 [.val (.ref a), l1, l2, l3, l4] (.ref a :: st) h := zx_go rfl rfl
theorem zs_224_116 : zrun zP sv C 224 116 [l0, l1, l2, l3, l4] st h = zrun zP sv C 224 118 [l0, l1, l2, l3, l4] (.int (nI 42) :: st) h := zx_go rfl rfl
theorem zs_224_118 : zrun zP sv C 224 118 [l0, l1, l2, l3, l4] st h = zrun zP sv C 224 119 [l0, l1, l2, l3, l4] (.int 0 :: st) h := zx_go rfl rfl
theorem zs_224_119 : zrun zP sv C 224 119 [l0, l1, l2, l3, l4] [v2, v1, .ref b] h = zrc (h.1 b) 13 (zbk (C 216 [.ref b, v1, v2] h) (fun v h' => zrun zP sv C 224 122 [l0, l1, l2, l3, l4] (v.toList ++ []) h') (fun E h' => some (.inr E, h'))) := zx_cv (x0 := 13) rfl rfl rfl rfl rfl ⟨Nat.le_of_ble_eq_true rfl, rfl⟩ (fun _ _ => rfl)
theorem zs_224_122 : zrun zP sv C 224 122 [.val (.ref a), l1, l2, l3, l4] st h = zrun zP sv C 224 123 [.val (.ref a), l1, l2, l3, l4] (.ref a :: st) h := zx_go rfl rfl
theorem zs_224_123 : zrun zP sv C 224 123 [l0, .val (.int x), l2, l3, l4] st h = zrun zP sv C 224 124 [l0, .val (.int x), l2, l3, l4] (.int x :: st) h := zx_go rfl rfl
theorem zs_224_124 : zrun zP sv C 224 124 [l0, l1, l2, l3, l4] st h = zrun zP sv C 224 125 [l0, l1, l2, l3, l4] (.int (nI 1) :: st) h := zx_go rfl rfl
theorem zs_224_125 : zrun zP sv C 224 125 [l0, l1, l2, l3, l4] (.int y :: .int x :: st) h = zrun zP sv C 224 126 [l0, l1, l2, l3, l4] (.int (x + y) :: st) h := zx_go rfl rfl
theorem zs_224_126 : zrun zP sv C 224 126 [l0, l1, .val (.int x), l3, l4] st h = zrun zP sv C 224 127 [l0, l1, .val (.int x), l3, l4] (.int x :: st) h := zx_go rfl rfl
theorem zs_224_127 : zrun zP sv C 224 127 [l0, l1, l2, l3, l4] [v2, v1, .ref b] h = zrc (h.1 b) 13 (zbk (C 224 [.ref b, v1, v2] h) (fun v h' => zrun zP sv C 224 130 [l0, l1, l2, l3, l4] (v.toList ++ []) h') (fun E h' => some (.inr E, h'))) := zx_cv (x0 := 13) rfl rfl rfl rfl rfl ⟨Nat.le_of_ble_eq_true rfl, rfl⟩ (fun _ _ => rfl)
theorem zs_224_130 (hs : znw l4 = true) : zrun zP sv C 224 130 [l0, l1, l2, l3, l4] (.int x :: st) h = zrun zP sv C 224 132 [l0, l1, l2, l3, .val (.int x)] st h := zx_st hs rfl rfl rfl rfl rfl rfl
theorem zs_224_132 : zrun zP sv C 224 132 [.val (.ref a), l1, l2, l3, l4] st h = zrun zP sv C 224 133 [.val (.ref a), l1, l2, l3, l4] (.ref a :: st) h := zx_go rfl rfl
theorem zs_224_133 : zrun zP sv C 224 133 [l0, l1, l2, .val (.int x), l4] st h = zrun zP sv C 224 134 [l0, l1, l2, .val (.int x), l4] (.int x :: st) h := zx_go rfl rfl
theorem zs_224_134 : zrun zP sv C 224 134 [l0, l1, l2, l3, l4] [v1, .ref b] h = zrc (h.1 b) 13 (zbk (C 217 [.ref b, v1] h) (fun v h' => zrun zP sv C 224 137 [l0, l1, l2, l3, l4] (v.toList ++ []) h') (fun E h' => some (.inr E, h'))) := zx_cv (x0 := 13) rfl rfl rfl rfl rfl ⟨Nat.le_of_ble_eq_true rfl, rfl⟩ (fun _ _ => rfl)
theorem zs_224_137 (hs : znw l4 = true) : zrun zP sv C 224 137 [l0, l1, l2, l3, l4] (.int x :: st) h = zrun zP sv C 224 139 [l0, l1, l2, l3, .val (.int x)] st h := zx_st hs rfl rfl rfl rfl rfl rfl
theorem zs_224_139 : zrun zP sv C 224 139 [.val (.ref a), l1, l2, l3, l4] st h = zrun zP sv C 224 140 [.val (.ref a), l1, l2, l3, l4] (.ref a :: st) h := zx_go rfl rfl
theorem zs_224_140 : zrun zP sv C 224 140 [l0, l1, l2, l3, l4] st h = zrun zP sv C 224 142 [l0, l1, l2, l3, l4] (.int (nI 42) :: st) h := zx_go rfl rfl
theorem zs_224_142 : zrun zP sv C 224 142 [l0, l1, l2, l3, l4] st h = zrun zP sv C 224 143 [l0, l1, l2, l3, l4] (.int 0 :: st) h := zx_go rfl rfl
theorem zs_224_143 : zrun zP sv C 224 143 [l0, l1, l2, l3, l4] [v2, v1, .ref b] h = zrc (h.1 b) 13 (zbk (C 216 [.ref b, v1, v2] h) (fun v h' => zrun zP sv C 224 146 [l0, l1, l2, l3, l4] (v.toList ++ []) h') (fun E h' => some (.inr E, h'))) := zx_cv (x0 := 13) rfl rfl rfl rfl rfl ⟨Nat.le_of_ble_eq_true rfl, rfl⟩ (fun _ _ => rfl)
theorem zs_224_146 : zrun zP sv C 224 146 [.val (.ref a), l1, l2, l3, l4] st h = zrun zP sv C 224 147 [.val (.ref a), l1, l2, l3, l4] (.ref a :: st) h := zx_go rfl rfl
theorem zs_224_147 : zrun zP sv C 224 147 [l0, .val (.int x), l2, l3, l4] st h = zrun zP sv C 224 148 [l0, .val (.int x), l2, l3, l4] (.int x :: st) h := zx_go rfl rfl
theorem zs_224_148 : zrun zP sv C 224 148 [l0, l1, l2, l3, l4] st h = zrun zP sv C 224 149 [l0, l1, l2, l3, l4] (.int (nI 1) :: st) h := zx_go rfl rfl
theorem zs_224_149 : zrun zP sv C 224 149 [l0, l1, l2, l3, l4] (.int y :: .int x :: st) h = zrun zP sv C 224 150 [l0, l1, l2, l3, l4] (.int (x + y) :: st) h := zx_go rfl rfl
theorem zs_224_150 : zrun zP sv C 224 150 [l0, l1, l2, l3, l4] [v1, .ref b] h = zrc (h.1 b) 13 (zbk (C 217 [.ref b, v1] h) (fun v h' => zrun zP sv C 224 153 [l0, l1, l2, l3, l4] (v.toList ++ []) h') (fun E h' => some (.inr E, h'))) := zx_cv (x0 := 13) rfl rfl rfl rfl rfl ⟨Nat.le_of_ble_eq_true rfl, rfl⟩ (fun _ _ => rfl)
theorem zs_224_153 (hs : znw l4 = true) : zrun zP sv C 224 153 [l0, l1, l2, l3, l4] (.int x :: st) h = zrun zP sv C 224 155 [l0, l1, l2, l3, .val (.int x)] st h := zx_st hs rfl rfl rfl rfl rfl rfl
theorem zs_224_155 : zrun zP sv C 224 155 [.val (.ref a), l1, l2, l3, l4] st h = zrun zP sv C 224 156 [.val (.ref a), l1, l2, l3, l4] (.ref a :: st) h := zx_go rfl rfl
theorem zs_224_156 : zrun zP sv C 224 156 [l0, l1, l2, .val (.int x), l4] st h = zrun zP sv C 224 157 [l0, l1, l2, .val (.int x), l4] (.int x :: st) h := zx_go rfl rfl
theorem zs_224_157 : zrun zP sv C 224 157 [l0, l1, .val (.int x), l3, l4] st h = zrun zP sv C 224 158 [l0, l1, .val (.int x), l3, l4] (.int x :: st) h := zx_go rfl rfl
theorem zs_224_158 : zrun zP sv C 224 158 [l0, l1, l2, l3, l4] [v2, v1, .ref b] h = zrc (h.1 b) 13 (zbk (C 224 [.ref b, v1, v2] h) (fun v h' => zrun zP sv C 224 161 [l0, l1, l2, l3, l4] (v.toList ++ []) h') (fun E h' => some (.inr E, h'))) := zx_cv (x0 := 13) rfl rfl rfl rfl rfl ⟨Nat.le_of_ble_eq_true rfl, rfl⟩ (fun _ _ => rfl)
theorem zs_224_161 : zrun zP sv C 224 161 [l0, l1, l2, l3, l4] [.int x] h = some (.inl (some (.int x)), h) := zx_end rfl rfl
theorem zs_224_162 : zrun zP sv C 224 162 [.val (.ref a), l1, l2, l3, l4] st h = zrun zP sv C 224 163 [.val (.ref a), l1, l2, l3, l4] (.ref a :: st) h := zx_go rfl rfl
theorem zs_224_163 : zrun zP sv C 224 163 [.val (.ref a), l1, l2, l3, l4] st h = zrun zP sv C 224 164 [.val (.ref a), l1, l2, l3, l4] (.ref a :: st) h := zx_go rfl rfl
theorem zs_224_164 : zrun zP sv C 224 164 [l0, l1, l2, l3, l4] (.ref a :: st) h = zfld (h.1 a) 13 6 (fun v => zrun zP sv C 224 167 [l0, l1, l2, l3, l4] (v :: st) h) := zx_getf rfl rfl
theorem zs_224_167 : zrun zP sv C 224 167 [l0, .val (.int x), l2, l3, l4] st h = zrun zP sv C 224 168 [l0, .val (.int x), l2, l3, l4] (.int x :: st) h := zx_go rfl rfl
theorem zs_224_168 : zrun zP sv C 224 168 [l0, l1, l2, l3, l4] (.int x :: .ref a :: st) h = zael (h.1 a) 21 x (fun v => zrun zP sv C 224 169 [l0, l1, l2, l3, l4] (v :: st) h) := zx_ald rfl rfl
theorem zs_224_169 : zrun zP sv C 224 169 [l0, l1, l2, l3, l4] st h = zrun zP sv C 224 170 [l0, l1, l2, l3, l4] (.int 0 :: st) h := zx_go rfl rfl
theorem zs_224_170 : zrun zP sv C 224 170 [l0, l1, l2, l3, l4] [v2, v1, .ref b] h = zrc (h.1 b) 13 (zbk (C 216 [.ref b, v1, v2] h) (fun v h' => zrun zP sv C 224 173 [l0, l1, l2, l3, l4] (v.toList ++ []) h') (fun E h' => some (.inr E, h'))) := zx_cv (x0 := 13) rfl rfl rfl rfl rfl ⟨Nat.le_of_ble_eq_true rfl, rfl⟩ (fun _ _ => rfl)
theorem zs_224_173 : zrun zP sv C 224 173 [.val (.ref a), l1, l2, l3, l4] st h = zrun zP sv C 224 174 [.val (.ref a), l1, l2, l3, l4] (.ref a :: st) h := zx_go rfl rfl
theorem zs_224_174 : zrun zP sv C 224 174 [.val (.ref a), l1, l2, l3, l4] st h = zrun zP sv C 224 175 [.val (.ref a), l1, l2, l3, l4] (.ref a :: st) h := zx_go rfl rfl
theorem zs_224_175 : zrun zP sv C 224 175 [l0, .val (.int x), l2, l3, l4] st h = zrun zP sv C 224 176 [l0, .val (.int x), l2, l3, l4] (.int x :: st) h := zx_go rfl rfl
theorem zs_224_176 : zrun zP sv C 224 176 [l0, l1, l2, l3, l4] st h = zrun zP sv C 224 177 [l0, l1, l2, l3, l4] (.int (nI 1) :: st) h := zx_go rfl rfl
theorem zs_224_177 : zrun zP sv C 224 177 [l0, l1, l2, l3, l4] (.int y :: .int x :: st) h = zrun zP sv C 224 178 [l0, l1, l2, l3, l4] (.int (x + y) :: st) h := zx_go rfl rfl
theorem zs_224_178 : zrun zP sv C 224 178 [l0, l1, .val (.int x), l3, l4] st h = zrun zP sv C 224 179 [l0, l1, .val (.int x), l3, l4] (.int x :: st) h := zx_go rfl rfl
theorem zs_224_179 : zrun zP sv C 224 179 [l0, l1, l2, l3, l4] [v2, v1, .ref b, r0] h = zrc (h.1 b) 13 (zbk (C 224 [.ref b, v1, v2] h) (fun v h' => zrun zP sv C 224 182 [l0, l1, l2, l3, l4] (v.toList ++ [r0]) h') (fun E h' => some (.inr E, h'))) := zx_cv (x0 := 13) rfl rfl rfl rfl rfl ⟨Nat.le_of_ble_eq_true rfl, rfl⟩ (fun _ _ => rfl)
theorem zs_224_182 : zrun zP sv C 224 182 [l0, l1, .val (.int x), l3, l4] st h = zrun zP sv C 224 183 [l0, l1, .val (.int x), l3, l4] (.int x :: st) h := zx_go rfl rfl
theorem zs_224_183 : zrun zP sv C 224 183 [l0, l1, l2, l3, l4] [v2, v1, .ref b] h = zrc (h.1 b) 13 (zbk (C 224 [.ref b, v1, v2] h) (fun v h' => zrun zP sv C 224 186 [l0, l1, l2, l3, l4] (v.toList ++ []) h') (fun E h' => some (.inr E, h'))) := zx_cv (x0 := 13) rfl rfl rfl rfl rfl ⟨Nat.le_of_ble_eq_true rfl, rfl⟩ (fun _ _ => rfl)
theorem zs_224_186 : zrun zP sv C 224 186 [l0, l1, l2, l3, l4] [.int x] h = some (.inl (some (.int x)), h) := zx_end rfl rfl
theorem zs_225_0 : zrun zP sv C 225 0 [.val (.ref a), l1] st h = zrun zP sv C 225 1 [.val (.ref a), l1] (.ref a :: st) h := zx_go rfl rfl
theorem zs_225_1 : zrun zP sv C 225 1 [l0, l1] (.ref a :: st) h = zfld (h.1 a) 13 27 (fun v => zrun zP sv C 225 4 [l0, l1] (v :: st) h) := zx_getf rfl rfl
theorem zs_225_4 : zrun zP sv C 225 4 [.val (.ref a), l1] st h = zrun zP sv C 225 5 [.val (.ref a), l1] (.ref a :: st) h := zx_go rfl rfl
theorem zs_225_5 : zrun zP sv C 225 5 [l0, l1] (.ref a :: st) h = zfld (h.1 a) 13 26 (fun v => zrun zP sv C 225 8 [l0, l1] (v :: st) h) := zx_getf rfl rfl
theorem zs_225_8 : zrun zP sv C 225 8 [l0, l1] (.int y :: .int x :: st) h = if x = y then zrun zP sv C 225 24 [l0, l1] st h else zrun zP sv C 225 11 [l0, l1] st h := (zx_ic rfl rfl).trans zc0_if
theorem zs_225_11 : zrun zP sv C 225 11 [.val (.ref a), l1] st h = zrun zP sv C 225 12 [.val (.ref a), l1] (.ref a :: st) h := zx_go rfl rfl
theorem zs_225_12 : zrun zP sv C 225 12 [l0, l1] (.ref a :: st) h = zfld (h.1 a) 13 25 (fun v => zrun zP sv C 225 15 [l0, l1] (v :: st) h) := zx_getf rfl rfl
theorem zs_225_15 : zrun zP sv C 225 15 [.val (.ref a), l1] st h = zrun zP sv C 225 16 [.val (.ref a), l1] (.ref a :: st) h := zx_go rfl rfl
theorem zs_225_16 : zrun zP sv C 225 16 [l0, l1] (.ref a :: st) h = zfld (h.1 a) 13 27 (fun v => zrun zP sv C 225 19 [l0, l1] (v :: st) h) := zx_getf rfl rfl
theorem zs_225_19 : zrun zP sv C 225 19 [l0, l1] (.int x :: .ref a :: st) h = zael (h.1 a) 21 x (fun v => zrun zP sv C 225 20 [l0, l1] (v :: st) h) := zx_ald rfl rfl
theorem zs_225_20 : zrun zP sv C 225 20 [l0, .val (.int x)] st h = zrun zP sv C 225 21 [l0, .val (.int x)] (.int x :: st) h := zx_go rfl rfl
theorem zs_225_21 : zrun zP sv C 225 21 [l0, l1] (.int y :: .int x :: st) h = if x = y then zrun zP sv C 225 26 [l0, l1] st h else zrun zP sv C 225 24 [l0, l1] st h := (zx_ic rfl rfl).trans zc0_if
theorem zs_225_24 : zrun zP sv C 225 24 [l0, l1] st h = zrun zP sv C 225 25 [l0, l1] (.int 0 :: st) h := zx_go rfl rfl
theorem zs_225_25 : zrun zP sv C 225 25 [l0, l1] [.int x] h = zgd (zty 5 (.int x)) (some (.inl (some (.int x)), h)) := zx_rt rfl
theorem zs_225_26 : zrun zP sv C 225 26 [.val (.ref a), l1] st h = zrun zP sv C 225 27 [.val (.ref a), l1] (.ref a :: st) h := zx_go rfl rfl
theorem zs_225_27 : zrun zP sv C 225 27 [l0, l1] (.ref a :: st) h = zrun zP sv C 225 28 [l0, l1] (.ref a :: .ref a :: st) h := zx_go rfl rfl
theorem zs_225_28 : zrun zP sv C 225 28 [l0, l1] (.ref a :: st) h = zfld (h.1 a) 13 27 (fun v => zrun zP sv C 225 31 [l0, l1] (v :: st) h) := zx_getf rfl rfl
theorem zs_225_31 : zrun zP sv C 225 31 [l0, l1] st h = zrun zP sv C 225 32 [l0, l1] (.int (nI 1) :: st) h := zx_go rfl rfl
theorem zs_225_32 : zrun zP sv C 225 32 [l0, l1] (.int y :: .int x :: st) h = zrun zP sv C 225 33 [l0, l1] (.int (x + y) :: st) h := zx_go rfl rfl
theorem zs_225_33 : zrun zP sv C 225 33 [l0, l1] (.int x :: .ref a :: st) h = zpfd (h.1 a) 13 27 0 (.int x) (fun c => zrun zP sv C 225 36 [l0, l1] st (zup h a c)) := zx_putf (x0 := 0) rfl rfl
theorem zs_225_36 : zrun zP sv C 225 36 [l0, l1] st h = zrun zP sv C 225 37 [l0, l1] (.int (nI 1) :: st) h := zx_go rfl rfl
theorem zs_225_37 : zrun zP sv C 225 37 [l0, l1] [.int x] h = zgd (zty 5 (.int x)) (some (.inl (some (.int x)), h)) := zx_rt rfl
theorem zs_226_0 : zrun zP sv C 226 0 [.val (.ref a), l1, l2] st h = zrun zP sv C 226 1 [.val (.ref a), l1, l2] (.ref a :: st) h := zx_go rfl rfl
theorem zs_226_1 : zrun zP sv C 226 1 [l0, l1, l2] (.ref a :: st) h = zfld (h.1 a) 13 27 (fun v => zrun zP sv C 226 4 [l0, l1, l2] (v :: st) h) := zx_getf rfl rfl
theorem zs_226_4 : zrun zP sv C 226 4 [.val (.ref a), l1, l2] st h = zrun zP sv C 226 5 [.val (.ref a), l1, l2] (.ref a :: st) h := zx_go rfl rfl
theorem zs_226_5 : zrun zP sv C 226 5 [l0, l1, l2] (.ref a :: st) h = zfld (h.1 a) 13 26 (fun v => zrun zP sv C 226 8 [l0, l1, l2] (v :: st) h) := zx_getf rfl rfl
theorem zs_226_8 : zrun zP sv C 226 8 [l0, l1, l2] (.int y :: .int x :: st) h = if x < y then zrun zP sv C 226 11 [l0, l1, l2] st h else zrun zP sv C 226 32 [l0, l1, l2] st h := (zx_ic rfl rfl).trans zc3_if
theorem zs_226_11 : zrun zP sv C 226 11 [.val (.ref a), l1, l2] st h = zrun zP sv C 226 12 [.val (.ref a), l1, l2] (.ref a :: st) h := zx_go rfl rfl
theorem zs_226_12 : zrun zP sv C 226 12 [l0, l1, l2] (.ref a :: st) h = zfld (h.1 a) 13 25 (fun v => zrun zP sv C 226 15 [l0, l1, l2] (v :: st) h) := zx_getf rfl rfl
theorem zs_226_15 : zrun zP sv C 226 15 [.val (.ref a), l1, l2] st h = zrun zP sv C 226 16 [.val (.ref a), l1, l2] (.ref a :: st) h := zx_go rfl rfl
theorem zs_226_16 : zrun zP sv C 226 16 [l0, l1, l2] (.ref a :: st) h = zfld (h.1 a) 13 27 (fun v => zrun zP sv C 226 19 [l0, l1, l2] (v :: st) h) := zx_getf rfl rfl
theorem zs_226_19 : zrun zP sv C 226 19 [l0, l1, l2] (.int x :: .ref a :: st) h = zael (h.1 a) 21 x (fun v => zrun zP sv C 226 20 [l0, l1, l2] (v :: st) h) := zx_ald rfl rfl
theorem zs_226_20 : zrun zP sv C 226 20 [l0, .val (.int x), l2] st h = zrun zP sv C 226 21 [l0, .val (.int x), l2] (.int x :: st) h := zx_go rfl rfl
theorem zs_226_21 : zrun zP sv C 226 21 [l0, l1, .val (.int x)] st h = zrun zP sv C 226 22 [l0, l1, .val (.int x)] (.int x :: st) h := zx_go rfl rfl
theorem zs_226_22 : zrun zP sv C 226 22 [l0, l1, l2] [v2, v1, v0] h = zbk (C 199 [v0, v1, v2] h) (fun v h' => zrun zP sv C 226 25 [l0, l1, l2] (v.toList ++ []) h') (fun E h' => some (.inr E, h')) := zx_cs rfl rfl rfl rfl ⟨Nat.le_of_ble_eq_true rfl, rfl⟩ (fun _ _ => rfl)
theorem zs_226_25 : zrun zP sv C 226 25 [l0, l1, l2] (.int x :: st) h = if x = 0 then zrun zP sv C 226 32 [l0, l1, l2] st h else zrun zP sv C 226 28 [l0, l1, l2] st h := (zx_if rfl rfl).trans zc0_if
theorem zs_226_28 : zrun zP sv C 226 28 [l0, l1, l2] st h = zrun zP sv C 226 29 [l0, l1, l2] (.int (nI 1) :: st) h := zx_go rfl rfl
theorem zs_226_29 : zrun zP sv C 226 29 [l0, l1, l2] st h = zrun zP sv C 226 33 [l0, l1, l2] st h := zx_go rfl rfl
theorem zs_226_32 : zrun zP sv C 226 32 [l0, l1, l2] st h = zrun zP sv C 226 33 [l0, l1, l2] (.int 0 :: st) h := zx_go rfl rfl
theorem zs_226_33 : zrun zP sv C 226 33 [l0, l1, l2] [.int x] h = zgd (zty 5 (.int x)) (some (.inl (some (.int x)), h)) := zx_rt rfl
theorem zs_227_0 : zrun zP sv C 227 0 [.val (.ref a), l1, l2, l3] st h = zrun zP sv C 227 1 [.val (.ref a), l1, l2, l3] (.ref a :: st) h := zx_go rfl rfl
theorem zs_227_1 : zrun zP sv C 227 1 [l0, l1, l2, l3] (.ref a :: st) h = zfld (h.1 a) 13 11 (fun v => zrun zP sv C 227 4 [l0, l1, l2, l3] (v :: st) h) := zx_getf rfl rfl
theorem zs_227_4 (hs : znw l3 = true) : zrun zP sv C 227 4 [l0, l1, l2, l3] (.int x :: st) h = zrun zP sv C 227 5 [l0, l1, l2, .val (.int x)] st h := zx_st hs rfl rfl rfl rfl rfl rfl
theorem zs_227_5 : zrun zP sv C 227 5 [l0, l1, l2, .val (.int x)] st h = zrun zP sv C 227 6 [l0, l1, l2, .val (.int x)] (.int x :: st) h := zx_go rfl rfl
theorem zs_227_6 : zrun zP sv C 227 6 [l0, l1, .val (.int x), l3] st h = zrun zP sv C 227 7 [l0, l1, .val (.int x), l3] (.int x :: st) h := zx_go rfl rfl
theorem zs_227_7 : zrun zP sv C 227 7 [l0, l1, l2, l3] (.int y :: .int x :: st) h = if y < x then zrun zP sv C 227 10 [l0, l1, l2, l3] st h else zrun zP sv C 227 44 [l0, l1, l2, l3] st h := (zx_ic rfl rfl).trans zc5_if
theorem zs_227_10 : zrun zP sv C 227 10 [.val (.ref a), l1, l2, l3] st h = zrun zP sv C 227 11 [.val (.ref a), l1, l2, l3] (.ref a :: st) h := zx_go rfl rfl
theorem zs_227_11 : zrun zP sv C 227 11 [l0, l1, l2, l3] (.ref a :: st) h = zfld (h.1 a) 13 9 (fun v => zrun zP sv C 227 14 [l0, l1, l2, l3] (v :: st) h) := zx_getf rfl rfl
theorem zs_227_14 : zrun zP sv C 227 14 [l0, l1, l2, .val (.int x)] st h = zrun zP sv C 227 15 [l0, l1, l2, .val (.int x)] (.int x :: st) h := zx_go rfl rfl
theorem zs_227_15 : zrun zP sv C 227 15 [.val (.ref a), l1, l2, l3] st h = zrun zP sv C 227 16 [.val (.ref a), l1, l2, l3] (.ref a :: st) h := zx_go rfl rfl
theorem zs_227_16 : zrun zP sv C 227 16 [l0, l1, l2, l3] (.ref a :: st) h = zfld (h.1 a) 13 9 (fun v => zrun zP sv C 227 19 [l0, l1, l2, l3] (v :: st) h) := zx_getf rfl rfl
theorem zs_227_19 : zrun zP sv C 227 19 [l0, l1, l2, .val (.int x)] st h = zrun zP sv C 227 20 [l0, l1, l2, .val (.int x)] (.int x :: st) h := zx_go rfl rfl
theorem zs_227_20 : zrun zP sv C 227 20 [l0, l1, l2, l3] st h = zrun zP sv C 227 21 [l0, l1, l2, l3] (.int (nI 1) :: st) h := zx_go rfl rfl
theorem zs_227_21 : zrun zP sv C 227 21 [l0, l1, l2, l3] (.int y :: .int x :: st) h = zrun zP sv C 227 22 [l0, l1, l2, l3] (.int (x - y) :: st) h := zx_go rfl rfl
theorem zs_227_22 : zrun zP sv C 227 22 [l0, l1, l2, l3] (.int x :: .ref a :: st) h = zael (h.1 a) 21 x (fun v => zrun zP sv C 227 23 [l0, l1, l2, l3] (v :: st) h) := zx_ald rfl rfl
theorem zs_227_23 : zrun zP sv C 227 23 [l0, l1, l2, l3] (.int y :: .int x :: .ref a :: st) h = zaset (h.1 a) 21 x (.int y) (fun c => zrun zP sv C 227 24 [l0, l1, l2, l3] st (zup h a c)) := zx_ast rfl rfl
theorem zs_227_24 : zrun zP sv C 227 24 [.val (.ref a), l1, l2, l3] st h = zrun zP sv C 227 25 [.val (.ref a), l1, l2, l3] (.ref a :: st) h := zx_go rfl rfl
theorem zs_227_25 : zrun zP sv C 227 25 [l0, l1, l2, l3] (.ref a :: st) h = zfld (h.1 a) 13 10 (fun v => zrun zP sv C 227 28 [l0, l1, l2, l3] (v :: st) h) := zx_getf rfl rfl
theorem zs_227_28 : zrun zP sv C 227 28 [l0, l1, l2, .val (.int x)] st h = zrun zP sv C 227 29 [l0, l1, l2, .val (.int x)] (.int x :: st) h := zx_go rfl rfl
theorem zs_227_29 : zrun zP sv C 227 29 [.val (.ref a), l1, l2, l3] st h = zrun zP sv C 227 30 [.val (.ref a), l1, l2, l3] (.ref a :: st) h := zx_go rfl rfl
theorem zs_227_30 : zrun zP sv C 227 30 [l0, l1, l2, l3] (.ref a :: st) h = zfld (h.1 a) 13 10 (fun v => zrun zP sv C 227 33 [l0, l1, l2, l3] (v :: st) h) := zx_getf rfl rfl
theorem zs_227_33 : zrun zP sv C 227 33 [l0, l1, l2, .val (.int x)] st h = zrun zP sv C 227 34 [l0, l1, l2, .val (.int x)] (.int x :: st) h := zx_go rfl rfl
theorem zs_227_34 : zrun zP sv C 227 34 [l0, l1, l2, l3] st h = zrun zP sv C 227 35 [l0, l1, l2, l3] (.int (nI 1) :: st) h := zx_go rfl rfl
theorem zs_227_35 : zrun zP sv C 227 35 [l0, l1, l2, l3] (.int y :: .int x :: st) h = zrun zP sv C 227 36 [l0, l1, l2, l3] (.int (x - y) :: st) h := zx_go rfl rfl
theorem zs_227_36 : zrun zP sv C 227 36 [l0, l1, l2, l3] (.int x :: .ref a :: st) h = zael (h.1 a) 20 x (fun v => zrun zP sv C 227 37 [l0, l1, l2, l3] (v :: st) h) := zx_ald rfl rfl
theorem zs_227_37 : zrun zP sv C 227 37 [l0, l1, l2, l3] (.int y :: .int x :: .ref a :: st) h = zaset (h.1 a) 20 x (.int y) (fun c => zrun zP sv C 227 38 [l0, l1, l2, l3] st (zup h a c)) := zx_ast rfl rfl
theorem zs_227_38 : zrun zP sv C 227 38 [l0, l1, l2, .val (.int x)] st h = zrun zP sv C 227 41 [l0, l1, l2, .val (.int (x + (-1)))] st h := zx_ii rfl rfl rfl rfl rfl
theorem zs_227_41 : zrun zP sv C 227 41 [l0, l1, l2, l3] st h = zrun zP sv C 227 5 [l0, l1, l2, l3] st h := zx_go rfl rfl
theorem zs_227_44 : zrun zP sv C 227 44 [.val (.ref a), l1, l2, l3] st h = zrun zP sv C 227 45 [.val (.ref a), l1, l2, l3] (.ref a :: st) h := zx_go rfl rfl
theorem zs_227_45 : zrun zP sv C 227 45 [l0, l1, l2, l3] (.ref a :: st) h = zfld (h.1 a) 13 9 (fun v => zrun zP sv C 227 48 [l0, l1, l2, l3] (v :: st) h) := zx_getf rfl rfl
theorem zs_227_48 : zrun zP sv C 227 48 [l0, l1, .val (.int x), l3] st h = zrun zP sv C 227 49 [l0, l1, .val (.int x), l3] (.int x :: st) h := zx_go rfl rfl
theorem zs_227_49 : zrun zP sv C 227 49 [l0, .val (.int x), l2, l3] st h = zrun zP sv C 227 50 [l0, .val (.int x), l2, l3] (.int x :: st) h := zx_go rfl rfl
theorem zs_227_50 : zrun zP sv C 227 50 [l0, l1, l2, l3] (.int y :: .int x :: .ref a :: st) h = zaset (h.1 a) 21 x (.int y) (fun c => zrun zP sv C 227 51 [l0, l1, l2, l3] st (zup h a c)) := zx_ast rfl rfl
theorem zs_227_51 : zrun zP sv C 227 51 [.val (.ref a), l1, l2, l3] st h = zrun zP sv C 227 52 [.val (.ref a), l1, l2, l3] (.ref a :: st) h := zx_go rfl rfl
theorem zs_227_52 : zrun zP sv C 227 52 [l0, l1, l2, l3] (.ref a :: st) h = zfld (h.1 a) 13 10 (fun v => zrun zP sv C 227 55 [l0, l1, l2, l3] (v :: st) h) := zx_getf rfl rfl
theorem zs_227_55 : zrun zP sv C 227 55 [l0, l1, .val (.int x), l3] st h = zrun zP sv C 227 56 [l0, l1, .val (.int x), l3] (.int x :: st) h := zx_go rfl rfl
theorem zs_227_56 : zrun zP sv C 227 56 [l0, l1, l2, l3] st h = zrun zP sv C 227 57 [l0, l1, l2, l3] (.int 0 :: st) h := zx_go rfl rfl
theorem zs_227_57 : zrun zP sv C 227 57 [l0, l1, l2, l3] (.int y :: .int x :: .ref a :: st) h = zaset (h.1 a) 20 x (.int y) (fun c => zrun zP sv C 227 58 [l0, l1, l2, l3] st (zup h a c)) := zx_ast rfl rfl
theorem zs_227_58 : zrun zP sv C 227 58 [.val (.ref a), l1, l2, l3] st h = zrun zP sv C 227 59 [.val (.ref a), l1, l2, l3] (.ref a :: st) h := zx_go rfl rfl
theorem zs_227_59 : zrun zP sv C 227 59 [l0, l1, l2, l3] (.ref a :: st) h = zrun zP sv C 227 60 [l0, l1, l2, l3] (.ref a :: .ref a :: st) h := zx_go rfl rfl
theorem zs_227_60 : zrun zP sv C 227 60 [l0, l1, l2, l3] (.ref a :: st) h = zfld (h.1 a) 13 11 (fun v => zrun zP sv C 227 63 [l0, l1, l2, l3] (v :: st) h) := zx_getf rfl rfl
theorem zs_227_63 : zrun zP sv C 227 63 [l0, l1, l2, l3] st h = zrun zP sv C 227 64 [l0, l1, l2, l3] (.int (nI 1) :: st) h := zx_go rfl rfl
theorem zs_227_64 : zrun zP sv C 227 64 [l0, l1, l2, l3] (.int y :: .int x :: st) h = zrun zP sv C 227 65 [l0, l1, l2, l3] (.int (x + y) :: st) h := zx_go rfl rfl
theorem zs_227_65 : zrun zP sv C 227 65 [l0, l1, l2, l3] (.int x :: .ref a :: st) h = zpfd (h.1 a) 13 11 0 (.int x) (fun c => zrun zP sv C 227 68 [l0, l1, l2, l3] st (zup h a c)) := zx_putf (x0 := 0) rfl rfl
theorem zs_227_68 : zrun zP sv C 227 68 [l0, l1, l2, l3] [] h = some (.inl none, h) := zx_end rfl rfl
theorem zs_228_0 : zrun zP sv C 228 0 [.val (.ref a), l1, l2] st h = zrun zP sv C 228 1 [.val (.ref a), l1, l2] (.ref a :: st) h := zx_go rfl rfl
theorem zs_228_1 : zrun zP sv C 228 1 [l0, l1, l2] (.ref a :: st) h = zfld (h.1 a) 13 11 (fun v => zrun zP sv C 228 4 [l0, l1, l2] (v :: st) h) := zx_getf rfl rfl
theorem zs_228_4 (hs : znw l1 = true) : zrun zP sv C 228 4 [l0, l1, l2] (.int x :: st) h = zrun zP sv C 228 5 [l0, .val (.int x), l2] st h := zx_st hs rfl rfl rfl rfl rfl rfl
theorem zs_228_5 : zrun zP sv C 228 5 [.val (.ref a), l1, l2] st h = zrun zP sv C 228 6 [.val (.ref a), l1, l2] (.ref a :: st) h := zx_go rfl rfl
theorem zs_228_6 : zrun zP sv C 228 6 [l0, l1, l2] [.ref b] h = zrc (h.1 b) 13 (zbk (C 229 [.ref b] h) (fun v h' => zrun zP sv C 228 9 [l0, l1, l2] (v.toList ++ []) h') (fun E h' => some (.inr E, h'))) := zx_cv (x0 := 13) rfl rfl rfl rfl rfl ⟨Nat.le_of_ble_eq_true rfl, rfl⟩ (fun _ _ => rfl)
theorem zs_228_9 (hs : znw l2 = true) : zrun zP sv C 228 9 [l0, l1, l2] (.int x :: st) h = zrun zP sv C 228 10 [l0, l1, .val (.int x)] st h := zx_st hs rfl rfl rfl rfl rfl rfl
theorem zs_228_10 : zrun zP sv C 228 10 [l0, l1, .val (.int x)] st h = zrun zP sv C 228 11 [l0, l1, .val (.int x)] (.int x :: st) h := zx_go rfl rfl
theorem zs_228_11 : zrun zP sv C 228 11 [l0, l1, l2] (.int x :: st) h = if x = 0 then zrun zP sv C 228 65 [l0, l1, l2] st h else zrun zP sv C 228 14 [l0, l1, l2] st h := (zx_if rfl rfl).trans zc0_if
theorem zs_228_14 : zrun zP sv C 228 14 [.val (.ref a), l1, l2] st h = zrun zP sv C 228 15 [.val (.ref a), l1, l2] (.ref a :: st) h := zx_go rfl rfl
theorem zs_228_15 : zrun zP sv C 228 15 [l0, l1, l2] st h = zrun zP sv C 228 17 [l0, l1, l2] (.int (nI 43) :: st) h := zx_go rfl rfl
theorem zs_228_17 : zrun zP sv C 228 17 [l0, l1, l2] st h = zrun zP sv C 228 19 [l0, l1, l2] (.int (nI 43) :: st) h := zx_go rfl rfl
theorem zs_228_19 : zrun zP sv C 228 19 [l0, l1, l2] [v2, v1, .ref b] h = zrc (h.1 b) 13 (zbk (C 226 [.ref b, v1, v2] h) (fun v h' => zrun zP sv C 228 22 [l0, l1, l2] (v.toList ++ []) h') (fun E h' => some (.inr E, h'))) := zx_cv (x0 := 13) rfl rfl rfl rfl rfl ⟨Nat.le_of_ble_eq_true rfl, rfl⟩ (fun _ _ => rfl)
theorem zs_228_22 : zrun zP sv C 228 22 [l0, l1, l2] (.int x :: st) h = if x = 0 then zrun zP sv C 228 25 [l0, l1, l2] st h else zrun zP sv C 228 36 [l0, l1, l2] st h := (zx_if rfl rfl).trans zc1_if
theorem zs_228_25 : zrun zP sv C 228 25 [.val (.ref a), l1, l2] st h = zrun zP sv C 228 26 [.val (.ref a), l1, l2] (.ref a :: st) h := zx_go rfl rfl
theorem zs_228_26 : zrun zP sv C 228 26 [l0, l1, l2] st h = zrun zP sv C 228 28 [l0, l1, l2] (.int (nI 45) :: st) h := zx_go rfl rfl
theorem zs_228_28 : zrun zP sv C 228 28 [l0, l1, l2] st h = zrun zP sv C 228 30 [l0, l1, l2] (.int (nI 45) :: st) h := zx_go rfl rfl
theorem zs_228_30 : zrun zP sv C 228 30 [l0, l1, l2] [v2, v1, .ref b] h = zrc (h.1 b) 13 (zbk (C 226 [.ref b, v1, v2] h) (fun v h' => zrun zP sv C 228 33 [l0, l1, l2] (v.toList ++ []) h') (fun E h' => some (.inr E, h'))) := zx_cv (x0 := 13) rfl rfl rfl rfl rfl ⟨Nat.le_of_ble_eq_true rfl, rfl⟩ (fun _ _ => rfl)
theorem zs_228_33 : zrun zP sv C 228 33 [l0, l1, l2] (.int x :: st) h = if x = 0 then zrun zP sv C 228 65 [l0, l1, l2] st h else zrun zP sv C 228 36 [l0, l1, l2] st h := (zx_if rfl rfl).trans zc0_if
theorem zs_228_36 : zrun zP sv C 228 36 [.val (.ref a), l1, l2] st h = zrun zP sv C 228 37 [.val (.ref a), l1, l2] (.ref a :: st) h := zx_go rfl rfl
theorem zs_228_37 : zrun zP sv C 228 37 [.val (.ref a), l1, l2] st h = zrun zP sv C 228 38 [.val (.ref a), l1, l2] (.ref a :: st) h := zx_go rfl rfl
theorem zs_228_38 : zrun zP sv C 228 38 [l0, l1, l2] (.ref a :: st) h = zfld (h.1 a) 13 25 (fun v => zrun zP sv C 228 41 [l0, l1, l2] (v :: st) h) := zx_getf rfl rfl
theorem zs_228_41 : zrun zP sv C 228 41 [.val (.ref a), l1, l2] st h = zrun zP sv C 228 42 [.val (.ref a), l1, l2] (.ref a :: st) h := zx_go rfl rfl
theorem zs_228_42 : zrun zP sv C 228 42 [l0, l1, l2] (.ref a :: st) h = zrun zP sv C 228 43 [l0, l1, l2] (.ref a :: .ref a :: st) h := zx_go rfl rfl
theorem zs_228_43 : zrun zP sv C 228 43 [l0, l1, l2] (.ref a :: st) h = zfld (h.1 a) 13 27 (fun v => zrun zP sv C 228 46 [l0, l1, l2] (v :: st) h) := zx_getf rfl rfl
theorem zs_228_46 : zrun zP sv C 228 46 [l0, l1, l2] (.int x :: .ref b :: st) h = zrun zP sv C 228 47 [l0, l1, l2] (.int x :: .ref b :: .int x :: st) h := zx_go rfl rfl
theorem zs_228_47 : zrun zP sv C 228 47 [l0, l1, l2] st h = zrun zP sv C 228 48 [l0, l1, l2] (.int (nI 1) :: st) h := zx_go rfl rfl
theorem zs_228_48 : zrun zP sv C 228 48 [l0, l1, l2] (.int y :: .int x :: st) h = zrun zP sv C 228 49 [l0, l1, l2] (.int (x + y) :: st) h := zx_go rfl rfl
theorem zs_228_49 : zrun zP sv C 228 49 [l0, l1, l2] (.int x :: .ref a :: st) h = zpfd (h.1 a) 13 27 0 (.int x) (fun c => zrun zP sv C 228 52 [l0, l1, l2] st (zup h a c)) := zx_putf (x0 := 0) rfl rfl
theorem zs_228_52 : zrun zP sv C 228 52 [l0, l1, l2] (.int x :: .ref a :: st) h = zael (h.1 a) 21 x (fun v => zrun zP sv C 228 53 [l0, l1, l2] (v :: st) h) := zx_ald rfl rfl
theorem zs_228_53 : zrun zP sv C 228 53 [l0, .val (.int x), l2] st h = zrun zP sv C 228 54 [l0, .val (.int x), l2] (.int x :: st) h := zx_go rfl rfl
theorem zs_228_54 : zrun zP sv C 228 54 [l0, l1, l2] [v2, v1, .ref b] h = zrc (h.1 b) 13 (zbk (C 227 [.ref b, v1, v2] h) (fun v h' => zrun zP sv C 228 57 [l0, l1, l2] (v.toList ++ []) h') (fun E h' => some (.inr E, h'))) := zx_cv (x0 := 13) rfl rfl rfl rfl rfl ⟨Nat.le_of_ble_eq_true rfl, rfl⟩ (fun _ _ => rfl)
theorem zs_228_57 : zrun zP sv C 228 57 [.val (.ref a), l1, l2] st h = zrun zP sv C 228 58 [.val (.ref a), l1, l2] (.ref a :: st) h := zx_go rfl rfl
theorem zs_228_58 : zrun zP sv C 228 58 [l0, l1, l2] [.ref b] h = zrc (h.1 b) 13 (zbk (C 229 [.ref b] h) (fun v h' => zrun zP sv C 228 61 [l0, l1, l2] (v.toList ++ []) h') (fun E h' => some (.inr E, h'))) := zx_cv (x0 := 13) rfl rfl rfl rfl rfl ⟨Nat.le_of_ble_eq_true rfl, rfl⟩ (fun _ _ => rfl)
theorem zs_228_61 (hs : znw l2 = true) : zrun zP sv C 228 61 [l0, l1, l2] (.int x :: st) h = zrun zP sv C 228 62 [l0, l1, .val (.int x)] st h := zx_st hs rfl rfl rfl rfl rfl rfl
theorem zs_228_62 : zrun zP sv C 228 62 [l0, l1, l2] st h = zrun zP sv C 228 10 [l0, l1, l2] st h := zx_go rfl rfl
theorem zs_228_65 : zrun zP sv C 228 65 [l0, l1, .val (.int x)] st h = zrun zP sv C 228 66 [l0, l1, .val (.int x)] (.int x :: st) h := zx_go rfl rfl
theorem zs_228_66 : zrun zP sv C 228 66 [l0, l1, l2] [.int x] h = zgd (zty 5 (.int x)) (some (.inl (some (.int x)), h)) := zx_rt rfl
theorem zs_229_0 : zrun zP sv C 229 0 [.val (.ref a), l1, l2] st h = zrun zP sv C 229 1 [.val (.ref a), l1, l2] (.ref a :: st) h := zx_go rfl rfl
theorem zs_229_1 : zrun zP sv C 229 1 [l0, l1, l2] (.ref a :: st) h = zfld (h.1 a) 13 11 (fun v => zrun zP sv C 229 4 [l0, l1, l2] (v :: st) h) := zx_getf rfl rfl
theorem zs_229_4 (hs : znw l1 = true) : zrun zP sv C 229 4 [l0, l1, l2] (.int x :: st) h = zrun zP sv C 229 5 [l0, .val (.int x), l2] st h := zx_st hs rfl rfl rfl rfl rfl rfl
theorem zs_229_5 : zrun zP sv C 229 5 [.val (.ref a), l1, l2] st h = zrun zP sv C 229 6 [.val (.ref a), l1, l2] (.ref a :: st) h := zx_go rfl rfl
theorem zs_229_6 : zrun zP sv C 229 6 [l0, l1, l2] [.ref b] h = zrc (h.1 b) 13 (zbk (C 230 [.ref b] h) (fun v h' => zrun zP sv C 229 9 [l0, l1, l2] (v.toList ++ []) h') (fun E h' => some (.inr E, h'))) := zx_cv (x0 := 13) rfl rfl rfl rfl rfl ⟨Nat.le_of_ble_eq_true rfl, rfl⟩ (fun _ _ => rfl)
theorem zs_229_9 (hs : znw l2 = true) : zrun zP sv C 229 9 [l0, l1, l2] (.int x :: st) h = zrun zP sv C 229 10 [l0, l1, .val (.int x)] st h := zx_st hs rfl rfl rfl rfl rfl rfl
theorem zs_229_10 : zrun zP sv C 229 10 [l0, l1, .val (.int x)] st h = zrun zP sv C 229 11 [l0, l1, .val (.int x)] (.int x :: st) h := zx_go rfl rfl
theorem zs_229_11 : zrun zP sv C 229 11 [l0, l1, l2] (.int x :: st) h = if x = 0 then zrun zP sv C 229 38 [l0, l1, l2] st h else zrun zP sv C 229 14 [l0, l1, l2] st h := (zx_if rfl rfl).trans zc0_if
theorem zs_229_14 : zrun zP sv C 229 14 [.val (.ref a), l1, l2] st h = zrun zP sv C 229 15 [.val (.ref a), l1, l2] (.ref a :: st) h := zx_go rfl rfl
theorem zs_229_15 : zrun zP sv C 229 15 [l0, l1, l2] st h = zrun zP sv C 229 17 [l0, l1, l2] (.int (nI 42) :: st) h := zx_go rfl rfl
theorem zs_229_17 : zrun zP sv C 229 17 [l0, l1, l2] [v1, .ref b] h = zrc (h.1 b) 13 (zbk (C 225 [.ref b, v1] h) (fun v h' => zrun zP sv C 229 20 [l0, l1, l2] (v.toList ++ []) h') (fun E h' => some (.inr E, h'))) := zx_cv (x0 := 13) rfl rfl rfl rfl rfl ⟨Nat.le_of_ble_eq_true rfl, rfl⟩ (fun _ _ => rfl)
theorem zs_229_20 : zrun zP sv C 229 20 [l0, l1, l2] (.int x :: st) h = if x = 0 then zrun zP sv C 229 38 [l0, l1, l2] st h else zrun zP sv C 229 23 [l0, l1, l2] st h := (zx_if rfl rfl).trans zc0_if
theorem zs_229_23 : zrun zP sv C 229 23 [.val (.ref a), l1, l2] st h = zrun zP sv C 229 24 [.val (.ref a), l1, l2] (.ref a :: st) h := zx_go rfl rfl
theorem zs_229_24 : zrun zP sv C 229 24 [l0, l1, l2] st h = zrun zP sv C 229 26 [l0, l1, l2] (.int (nI 42) :: st) h := zx_go rfl rfl
theorem zs_229_26 : zrun zP sv C 229 26 [l0, .val (.int x), l2] st h = zrun zP sv C 229 27 [l0, .val (.int x), l2] (.int x :: st) h := zx_go rfl rfl
theorem zs_229_27 : zrun zP sv C 229 27 [l0, l1, l2] [v2, v1, .ref b] h = zrc (h.1 b) 13 (zbk (C 227 [.ref b, v1, v2] h) (fun v h' => zrun zP sv C 229 30 [l0, l1, l2] (v.toList ++ []) h') (fun E h' => some (.inr E, h'))) := zx_cv (x0 := 13) rfl rfl rfl rfl rfl ⟨Nat.le_of_ble_eq_true rfl, rfl⟩ (fun _ _ => rfl)
theorem zs_229_30 : zrun zP sv C 229 30 [.val (.ref a), l1, l2] st h = zrun zP sv C 229 31 [.val (.ref a), l1, l2] (.ref a :: st) h := zx_go rfl rfl
theorem zs_229_31 : zrun zP sv C 229 31 [l0, l1, l2] [.ref b] h = zrc (h.1 b) 13 (zbk (C 230 [.ref b] h) (fun v h' => zrun zP sv C 229 34 [l0, l1, l2] (v.toList ++ []) h') (fun E h' => some (.inr E, h'))) := zx_cv (x0 := 13) rfl rfl rfl rfl rfl ⟨Nat.le_of_ble_eq_true rfl, rfl⟩ (fun _ _ => rfl)
theorem zs_229_34 (hs : znw l2 = true) : zrun zP sv C 229 34 [l0, l1, l2] (.int x :: st) h = zrun zP sv C 229 35 [l0, l1, .val (.int x)] st h := zx_st hs rfl rfl rfl rfl rfl rfl
theorem zs_229_35 : zrun zP sv C 229 35 [l0, l1, l2] st h = zrun zP sv C 229 10 [l0, l1, l2] st h := zx_go rfl rfl
theorem zs_229_38 : zrun zP sv C 229 38 [l0, l1, .val (.int x)] st h = zrun zP sv C 229 39 [l0, l1, .val (.int x)] (.int x :: st) h := zx_go rfl rfl
theorem zs_229_39 : zrun zP sv C 229 39 [l0, l1, l2] [.int x] h = zgd (zty 5 (.int x)) (some (.inl (some (.int x)), h)) := zx_rt rfl
theorem zs_230_0 : zrun zP sv C 230 0 [l0, l1] st h = zrun zP sv C 230 1 [l0, l1] (.int 0 :: st) h := zx_go rfl rfl
theorem zs_230_1 (hs : znw l1 = true) : zrun zP sv C 230 1 [l0, l1] (.int x :: st) h = zrun zP sv C 230 2 [l0, .val (.int x)] st h := zx_st hs rfl rfl rfl rfl rfl rfl
theorem zs_230_2 : zrun zP sv C 230 2 [l0, .val (.int x)] st h = zrun zP sv C 230 3 [l0, .val (.int x)] (.int x :: st) h := zx_go rfl rfl
theorem zs_230_3 : zrun zP sv C 230 3 [l0, l1] st h = zrun zP sv C 230 5 [l0, l1] (.int (nI 6) :: st) h := zx_go rfl rfl
theorem zs_230_5 : zrun zP sv C 230 5 [l0, l1] (.int y :: .int x :: st) h = if x < y then zrun zP sv C 230 8 [l0, l1] st h else zrun zP sv C 230 30 [l0, l1] st h := (zx_ic rfl rfl).trans zc3_if
theorem zs_230_8 : zrun zP sv C 230 8 [.val (.ref a), l1] st h = zrun zP sv C 230 9 [.val (.ref a), l1] (.ref a :: st) h := zx_go rfl rfl
theorem zs_230_9 : zrun zP sv C 230 9 [l0, l1] st h = zrun zP sv C 230 11 [l0, l1] (.int (nI 45) :: st) h := zx_go rfl rfl
theorem zs_230_11 : zrun zP sv C 230 11 [l0, l1] [v1, .ref b] h = zrc (h.1 b) 13 (zbk (C 225 [.ref b, v1] h) (fun v h' => zrun zP sv C 230 14 [l0, l1] (v.toList ++ []) h') (fun E h' => some (.inr E, h'))) := zx_cv (x0 := 13) rfl rfl rfl rfl rfl ⟨Nat.le_of_ble_eq_true rfl, rfl⟩ (fun _ _ => rfl)
theorem zs_230_14 : zrun zP sv C 230 14 [l0, l1] (.int x :: st) h = if x = 0 then zrun zP sv C 230 30 [l0, l1] st h else zrun zP sv C 230 17 [l0, l1] st h := (zx_if rfl rfl).trans zc0_if
theorem zs_230_17 : zrun zP sv C 230 17 [.val (.ref a), l1] st h = zrun zP sv C 230 18 [.val (.ref a), l1] (.ref a :: st) h := zx_go rfl rfl
theorem zs_230_18 : zrun zP sv C 230 18 [l0, l1] st h = zrun zP sv C 230 20 [l0, l1] (.int (nI 110) :: st) h := zx_go rfl rfl
theorem zs_230_20 : zrun zP sv C 230 20 [l0, l1] st h = zrun zP sv C 230 21 [l0, l1] (.int 0 :: st) h := zx_go rfl rfl
theorem zs_230_21 : zrun zP sv C 230 21 [l0, l1] [v2, v1, .ref b] h = zrc (h.1 b) 13 (zbk (C 216 [.ref b, v1, v2] h) (fun v h' => zrun zP sv C 230 24 [l0, l1] (v.toList ++ []) h') (fun E h' => some (.inr E, h'))) := zx_cv (x0 := 13) rfl rfl rfl rfl rfl ⟨Nat.le_of_ble_eq_true rfl, rfl⟩ (fun _ _ => rfl)
theorem zs_230_24 : zrun zP sv C 230 24 [l0, .val (.int x)] st h = zrun zP sv C 230 27 [l0, .val (.int (x + (nI 1)))] st h := zx_ii rfl rfl rfl rfl rfl
theorem zs_230_27 : zrun zP sv C 230 27 [l0, l1] st h = zrun zP sv C 230 2 [l0, l1] st h := zx_go rfl rfl
theorem zs_230_30 : zrun zP sv C 230 30 [.val (.ref a), l1] st h = zrun zP sv C 230 31 [.val (.ref a), l1] (.ref a :: st) h := zx_go rfl rfl
theorem zs_230_31 : zrun zP sv C 230 31 [l0, l1] st h = zrun zP sv C 230 33 [l0, l1] (.int (nI 48) :: st) h := zx_go rfl rfl
theorem zs_230_33 : zrun zP sv C 230 33 [l0, l1] st h = zrun zP sv C 230 35 [l0, l1] (.int (nI 57) :: st) h := zx_go rfl rfl
theorem zs_230_35 : zrun zP sv C 230 35 [l0, l1] [v2, v1, .ref b] h = zrc (h.1 b) 13 (zbk (C 226 [.ref b, v1, v2] h) (fun v h' => zrun zP sv C 230 38 [l0, l1] (v.toList ++ []) h') (fun E h' => some (.inr E, h'))) := zx_cv (x0 := 13) rfl rfl rfl rfl rfl ⟨Nat.le_of_ble_eq_true rfl, rfl⟩ (fun _ _ => rfl)
theorem zs_230_38 : zrun zP sv C 230 38 [l0, l1] (.int x :: st) h = if x = 0 then zrun zP sv C 230 106 [l0, l1] st h else zrun zP sv C 230 41 [l0, l1] st h := (zx_if rfl rfl).trans zc0_if
theorem zs_230_41 : zrun zP sv C 230 41 [.val (.ref a), l1] st h = zrun zP sv C 230 42 [.val (.ref a), l1] (.ref a :: st) h := zx_go rfl rfl
theorem zs_230_42 : zrun zP sv C 230 42 [l0, l1] (.ref a :: st) h = zfld (h.1 a) 13 25 (fun v => zrun zP sv C 230 45 [l0, l1] (v :: st) h) := zx_getf rfl rfl
theorem zs_230_45 : zrun zP sv C 230 45 [.val (.ref a), l1] st h = zrun zP sv C 230 46 [.val (.ref a), l1] (.ref a :: st) h := zx_go rfl rfl
theorem zs_230_46 : zrun zP sv C 230 46 [l0, l1] (.ref a :: st) h = zrun zP sv C 230 47 [l0, l1] (.ref a :: .ref a :: st) h := zx_go rfl rfl
theorem zs_230_47 : zrun zP sv C 230 47 [l0, l1] (.ref a :: st) h = zfld (h.1 a) 13 27 (fun v => zrun zP sv C 230 50 [l0, l1] (v :: st) h) := zx_getf rfl rfl
theorem zs_230_50 : zrun zP sv C 230 50 [l0, l1] (.int x :: .ref b :: st) h = zrun zP sv C 230 51 [l0, l1] (.int x :: .ref b :: .int x :: st) h := zx_go rfl rfl
theorem zs_230_51 : zrun zP sv C 230 51 [l0, l1] st h = zrun zP sv C 230 52 [l0, l1] (.int (nI 1) :: st) h := zx_go rfl rfl
theorem zs_230_52 : zrun zP sv C 230 52 [l0, l1] (.int y :: .int x :: st) h = zrun zP sv C 230 53 [l0, l1] (.int (x + y) :: st) h := zx_go rfl rfl
theorem zs_230_53 : zrun zP sv C 230 53 [l0, l1] (.int x :: .ref a :: st) h = zpfd (h.1 a) 13 27 0 (.int x) (fun c => zrun zP sv C 230 56 [l0, l1] st (zup h a c)) := zx_putf (x0 := 0) rfl rfl
theorem zs_230_56 : zrun zP sv C 230 56 [l0, l1] (.int x :: .ref a :: st) h = zael (h.1 a) 21 x (fun v => zrun zP sv C 230 57 [l0, l1] (v :: st) h) := zx_ald rfl rfl
theorem zs_230_57 : zrun zP sv C 230 57 [l0, l1] st h = zrun zP sv C 230 59 [l0, l1] (.int (nI 48) :: st) h := zx_go rfl rfl
theorem zs_230_59 : zrun zP sv C 230 59 [l0, l1] (.int y :: .int x :: st) h = zrun zP sv C 230 60 [l0, l1] (.int (x - y) :: st) h := zx_go rfl rfl
theorem zs_230_60 (hs : znw l1 = true) : zrun zP sv C 230 60 [l0, l1] (.int x :: st) h = zrun zP sv C 230 61 [l0, .val (.int x)] st h := zx_st hs rfl rfl rfl rfl rfl rfl
theorem zs_230_61 : zrun zP sv C 230 61 [.val (.ref a), l1] st h = zrun zP sv C 230 62 [.val (.ref a), l1] (.ref a :: st) h := zx_go rfl rfl
theorem zs_230_62 : zrun zP sv C 230 62 [l0, l1] st h = zrun zP sv C 230 64 [l0, l1] (.int (nI 48) :: st) h := zx_go rfl rfl
theorem zs_230_64 : zrun zP sv C 230 64 [l0, l1] st h = zrun zP sv C 230 66 [l0, l1] (.int (nI 57) :: st) h := zx_go rfl rfl
theorem zs_230_66 : zrun zP sv C 230 66 [l0, l1] [v2, v1, .ref b] h = zrc (h.1 b) 13 (zbk (C 226 [.ref b, v1, v2] h) (fun v h' => zrun zP sv C 230 69 [l0, l1] (v.toList ++ []) h') (fun E h' => some (.inr E, h'))) := zx_cv (x0 := 13) rfl rfl rfl rfl rfl ⟨Nat.le_of_ble_eq_true rfl, rfl⟩ (fun _ _ => rfl)
theorem zs_230_69 : zrun zP sv C 230 69 [l0, l1] (.int x :: st) h = if x = 0 then zrun zP sv C 230 97 [l0, l1] st h else zrun zP sv C 230 72 [l0, l1] st h := (zx_if rfl rfl).trans zc0_if
theorem zs_230_72 : zrun zP sv C 230 72 [l0, l1] st h = zrun zP sv C 230 74 [l0, l1] (.int (nI 10) :: st) h := zx_go rfl rfl
theorem zs_230_74 : zrun zP sv C 230 74 [l0, .val (.int x)] st h = zrun zP sv C 230 75 [l0, .val (.int x)] (.int x :: st) h := zx_go rfl rfl
theorem zs_230_75 : zrun zP sv C 230 75 [l0, l1] (.int y :: .int x :: st) h = zrun zP sv C 230 76 [l0, l1] (.int (x * y) :: st) h := zx_go rfl rfl
theorem zs_230_76 : zrun zP sv C 230 76 [.val (.ref a), l1] st h = zrun zP sv C 230 77 [.val (.ref a), l1] (.ref a :: st) h := zx_go rfl rfl
theorem zs_230_77 : zrun zP sv C 230 77 [l0, l1] (.ref a :: st) h = zfld (h.1 a) 13 25 (fun v => zrun zP sv C 230 80 [l0, l1] (v :: st) h) := zx_getf rfl rfl
theorem zs_230_80 : zrun zP sv C 230 80 [.val (.ref a), l1] st h = zrun zP sv C 230 81 [.val (.ref a), l1] (.ref a :: st) h := zx_go rfl rfl
theorem zs_230_81 : zrun zP sv C 230 81 [l0, l1] (.ref a :: st) h = zrun zP sv C 230 82 [l0, l1] (.ref a :: .ref a :: st) h := zx_go rfl rfl
theorem zs_230_82 : zrun zP sv C 230 82 [l0, l1] (.ref a :: st) h = zfld (h.1 a) 13 27 (fun v => zrun zP sv C 230 85 [l0, l1] (v :: st) h) := zx_getf rfl rfl
theorem zs_230_85 : zrun zP sv C 230 85 [l0, l1] (.int x :: .ref b :: st) h = zrun zP sv C 230 86 [l0, l1] (.int x :: .ref b :: .int x :: st) h := zx_go rfl rfl
theorem zs_230_86 : zrun zP sv C 230 86 [l0, l1] st h = zrun zP sv C 230 87 [l0, l1] (.int (nI 1) :: st) h := zx_go rfl rfl
theorem zs_230_87 : zrun zP sv C 230 87 [l0, l1] (.int y :: .int x :: st) h = zrun zP sv C 230 88 [l0, l1] (.int (x + y) :: st) h := zx_go rfl rfl
theorem zs_230_88 : zrun zP sv C 230 88 [l0, l1] (.int x :: .ref a :: st) h = zpfd (h.1 a) 13 27 0 (.int x) (fun c => zrun zP sv C 230 91 [l0, l1] st (zup h a c)) := zx_putf (x0 := 0) rfl rfl
theorem zs_230_91 : zrun zP sv C 230 91 [l0, l1] (.int x :: .ref a :: st) h = zael (h.1 a) 21 x (fun v => zrun zP sv C 230 92 [l0, l1] (v :: st) h) := zx_ald rfl rfl
theorem zs_230_92 : zrun zP sv C 230 92 [l0, l1] (.int y :: .int x :: st) h = zrun zP sv C 230 93 [l0, l1] (.int (x + y) :: st) h := zx_go rfl rfl
theorem zs_230_93 : zrun zP sv C 230 93 [l0, l1] st h = zrun zP sv C 230 95 [l0, l1] (.int (nI 48) :: st) h := zx_go rfl rfl
theorem zs_230_95 : zrun zP sv C 230 95 [l0, l1] (.int y :: .int x :: st) h = zrun zP sv C 230 96 [l0, l1] (.int (x - y) :: st) h := zx_go rfl rfl
theorem zs_230_96 (hs : znw l1 = true) : zrun zP sv C 230 96 [l0, l1] (.int x :: st) h = zrun zP sv C 230 97 [l0, .val (.int x)] st h := zx_st hs rfl rfl rfl rfl rfl rfl
theorem zs_230_97 : zrun zP sv C 230 97 [.val (.ref a), l1] st h = zrun zP sv C 230 98 [.val (.ref a), l1] (.ref a :: st) h := zx_go rfl rfl
theorem zs_230_98 : zrun zP sv C 230 98 [l0, l1] st h = zrun zP sv C 230 100 [l0, l1] (.int (nI 99) :: st) h := zx_go rfl rfl
theorem zs_230_100 : zrun zP sv C 230 100 [l0, .val (.int x)] st h = zrun zP sv C 230 101 [l0, .val (.int x)] (.int x :: st) h := zx_go rfl rfl
theorem zs_230_101 : zrun zP sv C 230 101 [l0, l1] [v2, v1, .ref b] h = zrc (h.1 b) 13 (zbk (C 216 [.ref b, v1, v2] h) (fun v h' => zrun zP sv C 230 104 [l0, l1] (v.toList ++ []) h') (fun E h' => some (.inr E, h'))) := zx_cv (x0 := 13) rfl rfl rfl rfl rfl ⟨Nat.le_of_ble_eq_true rfl, rfl⟩ (fun _ _ => rfl)
theorem zs_230_104 : zrun zP sv C 230 104 [l0, l1] st h = zrun zP sv C 230 105 [l0, l1] (.int (nI 1) :: st) h := zx_go rfl rfl
theorem zs_230_105 : zrun zP sv C 230 105 [l0, l1] [.int x] h = zgd (zty 5 (.int x)) (some (.inl (some (.int x)), h)) := zx_rt rfl
theorem zs_230_106 : zrun zP sv C 230 106 [.val (.ref a), l1] st h = zrun zP sv C 230 107 [.val (.ref a), l1] (.ref a :: st) h := zx_go rfl rfl
theorem zs_230_107 : zrun zP sv C 230 107 [l0, l1] st h = zrun zP sv C 230 109 [l0, l1] (.int (nI 97) :: st) h := zx_go rfl rfl
theorem zs_230_109 : zrun zP sv C 230 109 [l0, l1] st h = zrun zP sv C 230 111 [l0, l1] (.int (nI 102) :: st) h := zx_go rfl rfl
theorem zs_230_111 : zrun zP sv C 230 111 [l0, l1] [v2, v1, .ref b] h = zrc (h.1 b) 13 (zbk (C 226 [.ref b, v1, v2] h) (fun v h' => zrun zP sv C 230 114 [l0, l1] (v.toList ++ []) h') (fun E h' => some (.inr E, h'))) := zx_cv (x0 := 13) rfl rfl rfl rfl rfl ⟨Nat.le_of_ble_eq_true rfl, rfl⟩ (fun _ _ => rfl)
theorem zs_230_114 : zrun zP sv C 230 114 [l0, l1] (.int x :: st) h = if x = 0 then zrun zP sv C 230 144 [l0, l1] st h else zrun zP sv C 230 117 [l0, l1] st h := (zx_if rfl rfl).trans zc0_if
theorem zs_230_117 : zrun zP sv C 230 117 [.val (.ref a), l1] st h = zrun zP sv C 230 118 [.val (.ref a), l1] (.ref a :: st) h := zx_go rfl rfl
theorem zs_230_118 : zrun zP sv C 230 118 [l0, l1] st h = zrun zP sv C 230 120 [l0, l1] (.int (nI 118) :: st) h := zx_go rfl rfl
theorem zs_230_120 : zrun zP sv C 230 120 [.val (.ref a), l1] st h = zrun zP sv C 230 121 [.val (.ref a), l1] (.ref a :: st) h := zx_go rfl rfl
theorem zs_230_121 : zrun zP sv C 230 121 [l0, l1] (.ref a :: st) h = zfld (h.1 a) 13 25 (fun v => zrun zP sv C 230 124 [l0, l1] (v :: st) h) := zx_getf rfl rfl
theorem zs_230_124 : zrun zP sv C 230 124 [.val (.ref a), l1] st h = zrun zP sv C 230 125 [.val (.ref a), l1] (.ref a :: st) h := zx_go rfl rfl
theorem zs_230_125 : zrun zP sv C 230 125 [l0, l1] (.ref a :: st) h = zrun zP sv C 230 126 [l0, l1] (.ref a :: .ref a :: st) h := zx_go rfl rfl
theorem zs_230_126 : zrun zP sv C 230 126 [l0, l1] (.ref a :: st) h = zfld (h.1 a) 13 27 (fun v => zrun zP sv C 230 129 [l0, l1] (v :: st) h) := zx_getf rfl rfl
theorem zs_230_129 : zrun zP sv C 230 129 [l0, l1] (.int x :: .ref b :: st) h = zrun zP sv C 230 130 [l0, l1] (.int x :: .ref b :: .int x :: st) h := zx_go rfl rfl
theorem zs_230_130 : zrun zP sv C 230 130 [l0, l1] st h = zrun zP sv C 230 131 [l0, l1] (.int (nI 1) :: st) h := zx_go rfl rfl
theorem zs_230_131 : zrun zP sv C 230 131 [l0, l1] (.int y :: .int x :: st) h = zrun zP sv C 230 132 [l0, l1] (.int (x + y) :: st) h := zx_go rfl rfl
theorem zs_230_132 : zrun zP sv C 230 132 [l0, l1] (.int x :: .ref a :: st) h = zpfd (h.1 a) 13 27 0 (.int x) (fun c => zrun zP sv C 230 135 [l0, l1] st (zup h a c)) := zx_putf (x0 := 0) rfl rfl
theorem zs_230_135 : zrun zP sv C 230 135 [l0, l1] (.int x :: .ref a :: st) h = zael (h.1 a) 21 x (fun v => zrun zP sv C 230 136 [l0, l1] (v :: st) h) := zx_ald rfl rfl
theorem zs_230_136 : zrun zP sv C 230 136 [l0, l1] st h = zrun zP sv C 230 138 [l0, l1] (.int (nI 97) :: st) h := zx_go rfl rfl
theorem zs_230_138 : zrun zP sv C 230 138 [l0, l1] (.int y :: .int x :: st) h = zrun zP sv C 230 139 [l0, l1] (.int (x - y) :: st) h := zx_go rfl rfl
theorem zs_230_139 : zrun zP sv C 230 139 [l0, l1] [v2, v1, .ref b] h = zrc (h.1 b) 13 (zbk (C 216 [.ref b, v1, v2] h) (fun v h' => zrun zP sv C 230 142 [l0, l1] (v.toList ++ []) h') (fun E h' => some (.inr E, h'))) := zx_cv (x0 := 13) rfl rfl rfl rfl rfl ⟨Nat.le_of_ble_eq_true rfl, rfl⟩ (fun _ _ => rfl)
theorem zs_230_142 : zrun zP sv C 230 142 [l0, l1] st h = zrun zP sv C 230 143 [l0, l1] (.int (nI 1) :: st) h := zx_go rfl rfl
theorem zs_230_143 : zrun zP sv C 230 143 [l0, l1] [.int x] h = zgd (zty 5 (.int x)) (some (.inl (some (.int x)), h)) := zx_rt rfl
theorem zs_230_144 : zrun zP sv C 230 144 [.val (.ref a), l1] st h = zrun zP sv C 230 145 [.val (.ref a), l1] (.ref a :: st) h := zx_go rfl rfl
theorem zs_230_145 : zrun zP sv C 230 145 [l0, l1] (.ref a :: st) h = zfld (h.1 a) 13 28 (fun v => zrun zP sv C 230 148 [l0, l1] (v :: st) h) := zx_getf rfl rfl
theorem zs_230_148 : zrun zP sv C 230 148 [l0, l1] st h = zrun zP sv C 230 150 [l0, l1] (.int (nI 6) :: st) h := zx_go rfl rfl
theorem zs_230_150 : zrun zP sv C 230 150 [l0, l1] (.int y :: .int x :: st) h = if x = y then zrun zP sv C 230 162 [l0, l1] st h else zrun zP sv C 230 153 [l0, l1] st h := (zx_ic rfl rfl).trans zc0_if
theorem zs_230_153 : zrun zP sv C 230 153 [.val (.ref a), l1] st h = zrun zP sv C 230 154 [.val (.ref a), l1] (.ref a :: st) h := zx_go rfl rfl
theorem zs_230_154 : zrun zP sv C 230 154 [l0, l1] st h = zrun zP sv C 230 156 [l0, l1] (.int (nI 40) :: st) h := zx_go rfl rfl
theorem zs_230_156 : zrun zP sv C 230 156 [l0, l1] [v1, .ref b] h = zrc (h.1 b) 13 (zbk (C 225 [.ref b, v1] h) (fun v h' => zrun zP sv C 230 159 [l0, l1] (v.toList ++ []) h') (fun E h' => some (.inr E, h'))) := zx_cv (x0 := 13) rfl rfl rfl rfl rfl ⟨Nat.le_of_ble_eq_true rfl, rfl⟩ (fun _ _ => rfl)
theorem zs_230_159 : zrun zP sv C 230 159 [l0, l1] (.int x :: st) h = if x = 0 then zrun zP sv C 230 162 [l0, l1] st h else zrun zP sv C 230 164 [l0, l1] st h := (zx_if rfl rfl).trans zc1_if
theorem zs_230_162 : zrun zP sv C 230 162 [l0, l1] st h = zrun zP sv C 230 163 [l0, l1] (.int 0 :: st) h := zx_go rfl rfl
theorem zs_230_163 : zrun zP sv C 230 163 [l0, l1] [.int x] h = zgd (zty 5 (.int x)) (some (.inl (some (.int x)), h)) := zx_rt rfl
theorem zs_230_164 : zrun zP sv C 230 164 [.val (.ref a), l1] st h = zrun zP sv C 230 165 [.val (.ref a), l1] (.ref a :: st) h := zx_go rfl rfl
theorem zs_230_165 : zrun zP sv C 230 165 [l0, l1] (.ref a :: st) h = zrun zP sv C 230 166 [l0, l1] (.ref a :: .ref a :: st) h := zx_go rfl rfl
theorem zs_230_166 : zrun zP sv C 230 166 [l0, l1] (.ref a :: st) h = zfld (h.1 a) 13 28 (fun v => zrun zP sv C 230 169 [l0, l1] (v :: st) h) := zx_getf rfl rfl
theorem zs_230_169 : zrun zP sv C 230 169 [l0, l1] st h = zrun zP sv C 230 170 [l0, l1] (.int (nI 1) :: st) h := zx_go rfl rfl
theorem zs_230_170 : zrun zP sv C 230 170 [l0, l1] (.int y :: .int x :: st) h = zrun zP sv C 230 171 [l0, l1] (.int (x + y) :: st) h := zx_go rfl rfl
theorem zs_230_171 : zrun zP sv C 230 171 [l0, l1] (.int x :: .ref a :: st) h = zpfd (h.1 a) 13 28 0 (.int x) (fun c => zrun zP sv C 230 174 [l0, l1] st (zup h a c)) := zx_putf (x0 := 0) rfl rfl
theorem zs_230_174 : zrun zP sv C 230 174 [.val (.ref a), l1] st h = zrun zP sv C 230 175 [.val (.ref a), l1] (.ref a :: st) h := zx_go rfl rfl
theorem zs_230_175 : zrun zP sv C 230 175 [l0, l1] [.ref b] h = zrc (h.1 b) 13 (zbk (C 228 [.ref b] h) (fun v h' => zrun zP sv C 230 178 [l0, l1] (v.toList ++ []) h') (fun E h' => some (.inr E, h'))) := zx_cv (x0 := 13) rfl rfl rfl rfl rfl ⟨Nat.le_of_ble_eq_true rfl, rfl⟩ (fun _ _ => rfl)
theorem zs_230_178 : zrun zP sv C 230 178 [l0, l1] (.int x :: st) h = if x = 0 then zrun zP sv C 230 194 [l0, l1] st h else zrun zP sv C 230 181 [l0, l1] st h := (zx_if rfl rfl).trans zc0_if
theorem zs_230_181 : zrun zP sv C 230 181 [.val (.ref a), l1] st h = zrun zP sv C 230 182 [.val (.ref a), l1] (.ref a :: st) h := zx_go rfl rfl
theorem zs_230_182 : zrun zP sv C 230 182 [l0, l1] st h = zrun zP sv C 230 184 [l0, l1] (.int (nI 41) :: st) h := zx_go rfl rfl
theorem zs_230_184 : zrun zP sv C 230 184 [l0, l1] [v1, .ref b] h = zrc (h.1 b) 13 (zbk (C 225 [.ref b, v1] h) (fun v h' => zrun zP sv C 230 187 [l0, l1] (v.toList ++ []) h') (fun E h' => some (.inr E, h'))) := zx_cv (x0 := 13) rfl rfl rfl rfl rfl ⟨Nat.le_of_ble_eq_true rfl, rfl⟩ (fun _ _ => rfl)
theorem zs_230_187 : zrun zP sv C 230 187 [l0, l1] (.int x :: st) h = if x = 0 then zrun zP sv C 230 194 [l0, l1] st h else zrun zP sv C 230 190 [l0, l1] st h := (zx_if rfl rfl).trans zc0_if
theorem zs_230_190 : zrun zP sv C 230 190 [l0, l1] st h = zrun zP sv C 230 191 [l0, l1] (.int (nI 1) :: st) h := zx_go rfl rfl
theorem zs_230_191 : zrun zP sv C 230 191 [l0, l1] st h = zrun zP sv C 230 195 [l0, l1] st h := zx_go rfl rfl
theorem zs_230_194 : zrun zP sv C 230 194 [l0, l1] st h = zrun zP sv C 230 195 [l0, l1] (.int 0 :: st) h := zx_go rfl rfl
theorem zs_230_195 (hs : znw l1 = true) : zrun zP sv C 230 195 [l0, l1] (.int x :: st) h = zrun zP sv C 230 196 [l0, .val (.int x)] st h := zx_st hs rfl rfl rfl rfl rfl rfl
theorem zs_230_196 : zrun zP sv C 230 196 [.val (.ref a), l1] st h = zrun zP sv C 230 197 [.val (.ref a), l1] (.ref a :: st) h := zx_go rfl rfl
theorem zs_230_197 : zrun zP sv C 230 197 [l0, l1] (.ref a :: st) h = zrun zP sv C 230 198 [l0, l1] (.ref a :: .ref a :: st) h := zx_go rfl rfl
theorem zs_230_198 : zrun zP sv C 230 198 [l0, l1] (.ref a :: st) h = zfld (h.1 a) 13 28 (fun v => zrun zP sv C 230 201 [l0, l1] (v :: st) h) := zx_getf rfl rfl
theorem zs_230_201 : zrun zP sv C 230 201 [l0, l1] st h = zrun zP sv C 230 202 [l0, l1] (.int (nI 1) :: st) h := zx_go rfl rfl
theorem zs_230_202 : zrun zP sv C 230 202 [l0, l1] (.int y :: .int x :: st) h = zrun zP sv C 230 203 [l0, l1] (.int (x - y) :: st) h := zx_go rfl rfl
theorem zs_230_203 : zrun zP sv C 230 203 [l0, l1] (.int x :: .ref a :: st) h = zpfd (h.1 a) 13 28 0 (.int x) (fun c => zrun zP sv C 230 206 [l0, l1] st (zup h a c)) := zx_putf (x0 := 0) rfl rfl
theorem zs_230_206 : zrun zP sv C 230 206 [l0, .val (.int x)] st h = zrun zP sv C 230 207 [l0, .val (.int x)] (.int x :: st) h := zx_go rfl rfl
theorem zs_230_207 : zrun zP sv C 230 207 [l0, l1] [.int x] h = zgd (zty 5 (.int x)) (some (.inl (some (.int x)), h)) := zx_rt rfl
theorem zs_231_0 : zrun zP sv C 231 0 [.val (.ref a), l1] st h = zrun zP sv C 231 1 [.val (.ref a), l1] (.ref a :: st) h := zx_go rfl rfl
theorem zs_231_1 : zrun zP sv C 231 1 [l0, l1] st h = zrun zP sv C 231 2 [l0, l1] (.int 0 :: st) h := zx_go rfl rfl
theorem zs_231_2 : zrun zP sv C 231 2 [l0, l1] (.int x :: .ref a :: st) h = zpfd (h.1 a) 13 31 0 (.int x) (fun c => zrun zP sv C 231 5 [l0, l1] st (zup h a c)) := zx_putf (x0 := 0) rfl rfl
theorem zs_231_5 : zrun zP sv C 231 5 [.val (.ref a), l1] st h = zrun zP sv C 231 6 [.val (.ref a), l1] (.ref a :: st) h := zx_go rfl rfl
theorem zs_231_6 : zrun zP sv C 231 6 [l0, l1] (.ref a :: st) h = zfld (h.1 a) 13 26 (fun v => zrun zP sv C 231 9 [l0, l1] (v :: st) h) := zx_getf rfl rfl
theorem zs_231_9 : zrun zP sv C 231 9 [l0, l1] st h = zrun zP sv C 231 11 [l0, l1] (.int (nI 60) :: st) h := zx_go rfl rfl
theorem zs_231_11 : zrun zP sv C 231 11 [l0, l1] (.int y :: .int x :: st) h = if x = y then zrun zP sv C 231 14 [l0, l1] st h else zrun zP sv C 231 20 [l0, l1] st h := (zx_ic rfl rfl).trans zc1_if
theorem zs_231_14 : zrun zP sv C 231 14 [.val (.ref a), l1] st h = zrun zP sv C 231 15 [.val (.ref a), l1] (.ref a :: st) h := zx_go rfl rfl
theorem zs_231_15 : zrun zP sv C 231 15 [l0, l1] st h = zrun zP sv C 231 16 [l0, l1] (.int (nI 1) :: st) h := zx_go rfl rfl
theorem zs_231_16 : zrun zP sv C 231 16 [l0, l1] [v1, .ref b] h = zrc (h.1 b) 13 (zbk (C 198 [.ref b, v1] h) (fun v h' => zrun zP sv C 231 19 [l0, l1] (v.toList ++ []) h') (fun E h' => some (.inr E, h'))) := zx_cv (x0 := 13) rfl rfl rfl rfl rfl ⟨Nat.le_of_ble_eq_true rfl, rfl⟩ (fun _ _ => rfl)
theorem zs_231_19 : zrun zP sv C 231 19 [l0, l1] [.int x] h = some (.inl (some (.int x)), h) := zx_end rfl rfl
theorem zs_231_20 : zrun zP sv C 231 20 [.val (.ref a), l1] st h = zrun zP sv C 231 21 [.val (.ref a), l1] (.ref a :: st) h := zx_go rfl rfl
theorem zs_231_21 : zrun zP sv C 231 21 [l0, l1] (.ref a :: st) h = zfld (h.1 a) 13 25 (fun v => zrun zP sv C 231 24 [l0, l1] (v :: st) h) := zx_getf rfl rfl
theorem zs_231_24 : zrun zP sv C 231 24 [.val (.ref a), l1] st h = zrun zP sv C 231 25 [.val (.ref a), l1] (.ref a :: st) h := zx_go rfl rfl
theorem zs_231_25 : zrun zP sv C 231 25 [l0, l1] (.ref a :: st) h = zrun zP sv C 231 26 [l0, l1] (.ref a :: .ref a :: st) h := zx_go rfl rfl
theorem zs_231_26 : zrun zP sv C 231 26 [l0, l1] (.ref a :: st) h = zfld (h.1 a) 13 26 (fun v => zrun zP sv C 231 29 [l0, l1] (v :: st) h) := zx_getf rfl rfl
theorem zs_231_29 : zrun zP sv C 231 29 [l0, l1] (.int x :: .ref b :: st) h = zrun zP sv C 231 30 [l0, l1] (.int x :: .ref b :: .int x :: st) h := zx_go rfl rfl
theorem zs_231_30 : zrun zP sv C 231 30 [l0, l1] st h = zrun zP sv C 231 31 [l0, l1] (.int (nI 1) :: st) h := zx_go rfl rfl
theorem zs_231_31 : zrun zP sv C 231 31 [l0, l1] (.int y :: .int x :: st) h = zrun zP sv C 231 32 [l0, l1] (.int (x + y) :: st) h := zx_go rfl rfl
theorem zs_231_32 : zrun zP sv C 231 32 [l0, l1] (.int x :: .ref a :: st) h = zpfd (h.1 a) 13 26 0 (.int x) (fun c => zrun zP sv C 231 35 [l0, l1] st (zup h a c)) := zx_putf (x0 := 0) rfl rfl
theorem zs_231_35 : zrun zP sv C 231 35 [l0, .val (.int x)] st h = zrun zP sv C 231 36 [l0, .val (.int x)] (.int x :: st) h := zx_go rfl rfl
theorem zs_231_36 : zrun zP sv C 231 36 [l0, l1] (.int y :: .int x :: .ref a :: st) h = zaset (h.1 a) 21 x (.int y) (fun c => zrun zP sv C 231 37 [l0, l1] st (zup h a c)) := zx_ast rfl rfl
theorem zs_231_37 : zrun zP sv C 231 37 [.val (.ref a), l1] st h = zrun zP sv C 231 38 [.val (.ref a), l1] (.ref a :: st) h := zx_go rfl rfl
theorem zs_231_38 : zrun zP sv C 231 38 [l0, l1] (.ref a :: st) h = zfld (h.1 a) 13 26 (fun v => zrun zP sv C 231 41 [l0, l1] (v :: st) h) := zx_getf rfl rfl
theorem zs_231_41 : zrun zP sv C 231 41 [l0, l1] [.int x] h = some (.inl (some (.int x)), h) := zx_end rfl rfl
theorem zs_232_0 : zrun zP sv C 232 0 [.val (.ref a), l1] st h = zrun zP sv C 232 1 [.val (.ref a), l1] (.ref a :: st) h := zx_go rfl rfl
theorem zs_232_1 : zrun zP sv C 232 1 [l0, l1] st h = zrun zP sv C 232 2 [l0, l1] (.int 0 :: st) h := zx_go rfl rfl
theorem zs_232_2 : zrun zP sv C 232 2 [l0, l1] (.int x :: .ref a :: st) h = zpfd (h.1 a) 13 31 0 (.int x) (fun c => zrun zP sv C 232 5 [l0, l1] st (zup h a c)) := zx_putf (x0 := 0) rfl rfl
theorem zs_232_5 : zrun zP sv C 232 5 [.val (.ref a), l1] st h = zrun zP sv C 232 6 [.val (.ref a), l1] (.ref a :: st) h := zx_go rfl rfl
theorem zs_232_6 : zrun zP sv C 232 6 [l0, l1] (.ref a :: st) h = zfld (h.1 a) 13 26 (fun v => zrun zP sv C 232 9 [l0, l1] (v :: st) h) := zx_getf rfl rfl
theorem zs_232_9 (hs : znw l1 = true) : zrun zP sv C 232 9 [l0, l1] (.int x :: st) h = zrun zP sv C 232 10 [l0, .val (.int x)] st h := zx_st hs rfl rfl rfl rfl rfl rfl
theorem zs_232_10 : zrun zP sv C 232 10 [.val (.ref a), l1] st h = zrun zP sv C 232 11 [.val (.ref a), l1] (.ref a :: st) h := zx_go rfl rfl
theorem zs_232_11 : zrun zP sv C 232 11 [l0, l1] st h = zrun zP sv C 232 12 [l0, l1] (.int 0 :: st) h := zx_go rfl rfl
theorem zs_232_12 : zrun zP sv C 232 12 [l0, l1] (.int x :: .ref a :: st) h = zpfd (h.1 a) 13 26 0 (.int x) (fun c => zrun zP sv C 232 15 [l0, l1] st (zup h a c)) := zx_putf (x0 := 0) rfl rfl
theorem zs_232_15 : zrun zP sv C 232 15 [l0, .val (.int x)] st h = zrun zP sv C 232 16 [l0, .val (.int x)] (.int x :: st) h := zx_go rfl rfl
theorem zs_232_16 : zrun zP sv C 232 16 [l0, l1] [.int x] h = some (.inl (some (.int x)), h) := zx_end rfl rfl
theorem zs_233_0 : zrun zP sv C 233 0 [.val (.ref a), l1] st h = zrun zP sv C 233 1 [.val (.ref a), l1] (.ref a :: st) h := zx_go rfl rfl
theorem zs_233_1 : zrun zP sv C 233 1 [l0, l1] st h = zrun zP sv C 233 2 [l0, l1] (.int 0 :: st) h := zx_go rfl rfl
theorem zs_233_2 : zrun zP sv C 233 2 [l0, l1] (.int x :: .ref a :: st) h = zpfd (h.1 a) 13 27 0 (.int x) (fun c => zrun zP sv C 233 5 [l0, l1] st (zup h a c)) := zx_putf (x0 := 0) rfl rfl
theorem zs_233_5 : zrun zP sv C 233 5 [.val (.ref a), l1] st h = zrun zP sv C 233 6 [.val (.ref a), l1] (.ref a :: st) h := zx_go rfl rfl
theorem zs_233_6 : zrun zP sv C 233 6 [l0, l1] st h = zrun zP sv C 233 7 [l0, l1] (.int 0 :: st) h := zx_go rfl rfl
theorem zs_233_7 : zrun zP sv C 233 7 [l0, l1] (.int x :: .ref a :: st) h = zpfd (h.1 a) 13 11 0 (.int x) (fun c => zrun zP sv C 233 10 [l0, l1] st (zup h a c)) := zx_putf (x0 := 0) rfl rfl
theorem zs_233_10 : zrun zP sv C 233 10 [.val (.ref a), l1] st h = zrun zP sv C 233 11 [.val (.ref a), l1] (.ref a :: st) h := zx_go rfl rfl
theorem zs_233_11 : zrun zP sv C 233 11 [l0, l1] st h = zrun zP sv C 233 12 [l0, l1] (.int 0 :: st) h := zx_go rfl rfl
theorem zs_233_12 : zrun zP sv C 233 12 [l0, l1] (.int x :: .ref a :: st) h = zpfd (h.1 a) 13 28 0 (.int x) (fun c => zrun zP sv C 233 15 [l0, l1] st (zup h a c)) := zx_putf (x0 := 0) rfl rfl
theorem zs_233_15 : zrun zP sv C 233 15 [.val (.ref a), l1] st h = zrun zP sv C 233 16 [.val (.ref a), l1] (.ref a :: st) h := zx_go rfl rfl
theorem zs_233_16 : zrun zP sv C 233 16 [l0, l1] [.ref b] h = zrc (h.1 b) 13 (zbk (C 228 [.ref b] h) (fun v h' => zrun zP sv C 233 19 [l0, l1] (v.toList ++ []) h') (fun E h' => some (.inr E, h'))) := zx_cv (x0 := 13) rfl rfl rfl rfl rfl ⟨Nat.le_of_ble_eq_true rfl, rfl⟩ (fun _ _ => rfl)
theorem zs_233_19 : zrun zP sv C 233 19 [l0, l1] (.int x :: st) h = if x = 0 then zrun zP sv C 233 37 [l0, l1] st h else zrun zP sv C 233 22 [l0, l1] st h := (zx_if rfl rfl).trans zc0_if
theorem zs_233_22 : zrun zP sv C 233 22 [.val (.ref a), l1] st h = zrun zP sv C 233 23 [.val (.ref a), l1] (.ref a :: st) h := zx_go rfl rfl
theorem zs_233_23 : zrun zP sv C 233 23 [l0, l1] (.ref a :: st) h = zfld (h.1 a) 13 27 (fun v => zrun zP sv C 233 26 [l0, l1] (v :: st) h) := zx_getf rfl rfl
theorem zs_233_26 : zrun zP sv C 233 26 [.val (.ref a), l1] st h = zrun zP sv C 233 27 [.val (.ref a), l1] (.ref a :: st) h := zx_go rfl rfl
theorem zs_233_27 : zrun zP sv C 233 27 [l0, l1] (.ref a :: st) h = zfld (h.1 a) 13 26 (fun v => zrun zP sv C 233 30 [l0, l1] (v :: st) h) := zx_getf rfl rfl
theorem zs_233_30 : zrun zP sv C 233 30 [l0, l1] (.int y :: .int x :: st) h = if x = y then zrun zP sv C 233 33 [l0, l1] st h else zrun zP sv C 233 37 [l0, l1] st h := (zx_ic rfl rfl).trans zc1_if
theorem zs_233_33 : zrun zP sv C 233 33 [l0, l1] st h = zrun zP sv C 233 34 [l0, l1] (.int (nI 1) :: st) h := zx_go rfl rfl
theorem zs_233_34 : zrun zP sv C 233 34 [l0, l1] st h = zrun zP sv C 233 38 [l0, l1] st h := zx_go rfl rfl
theorem zs_233_37 : zrun zP sv C 233 37 [l0, l1] st h = zrun zP sv C 233 38 [l0, l1] (.int 0 :: st) h := zx_go rfl rfl
theorem zs_233_38 (hs : znw l1 = true) : zrun zP sv C 233 38 [l0, l1] (.int x :: st) h = zrun zP sv C 233 39 [l0, .val (.int x)] st h := zx_st hs rfl rfl rfl rfl rfl rfl
theorem zs_233_39 : zrun zP sv C 233 39 [.val (.ref a), l1] st h = zrun zP sv C 233 40 [.val (.ref a), l1] (.ref a :: st) h := zx_go rfl rfl
theorem zs_233_40 : zrun zP sv C 233 40 [l0, l1] st h = zrun zP sv C 233 41 [l0, l1] (.int 0 :: st) h := zx_go rfl rfl
theorem zs_233_41 : zrun zP sv C 233 41 [l0, l1] (.int x :: .ref a :: st) h = zpfd (h.1 a) 13 26 0 (.int x) (fun c => zrun zP sv C 233 44 [l0, l1] st (zup h a c)) := zx_putf (x0 := 0) rfl rfl
theorem zs_233_44 : zrun zP sv C 233 44 [l0, .val (.int x)] st h = zrun zP sv C 233 45 [l0, .val (.int x)] (.int x :: st) h := zx_go rfl rfl
theorem zs_233_45 : zrun zP sv C 233 45 [l0, l1] (.int x :: st) h = if x = 0 then zrun zP sv C 233 48 [l0, l1] st h else zrun zP sv C 233 58 [l0, l1] st h := (zx_if rfl rfl).trans zc1_if
theorem zs_233_48 : zrun zP sv C 233 48 [.val (.ref a), l1] st h = zrun zP sv C 233 49 [.val (.ref a), l1] (.ref a :: st) h := zx_go rfl rfl
theorem zs_233_49 : zrun zP sv C 233 49 [.val (.ref a), l1] st h = zrun zP sv C 233 50 [.val (.ref a), l1] (.ref a :: st) h := zx_go rfl rfl
theorem zs_233_50 : zrun zP sv C 233 50 [l0, l1] (.ref a :: st) h = zfld (h.1 a) 13 27 (fun v => zrun zP sv C 233 53 [l0, l1] (v :: st) h) := zx_getf rfl rfl
theorem zs_233_53 : zrun zP sv C 233 53 [l0, l1] (.int x :: .ref a :: st) h = zpfd (h.1 a) 13 29 0 (.int x) (fun c => zrun zP sv C 233 56 [l0, l1] st (zup h a c)) := zx_putf (x0 := 0) rfl rfl
theorem zs_233_56 : zrun zP sv C 233 56 [l0, l1] st h = zrun zP sv C 233 57 [l0, l1] (.int (nI 1) :: st) h := zx_go rfl rfl
theorem zs_233_57 : zrun zP sv C 233 57 [l0, l1] [.int x] h = some (.inl (some (.int x)), h) := zx_end rfl rfl
theorem zs_233_58 : zrun zP sv C 233 58 [.val (.ref a), l1] st h = zrun zP sv C 233 59 [.val (.ref a), l1] (.ref a :: st) h := zx_go rfl rfl
theorem zs_233_59 : zrun zP sv C 233 59 [l0, l1] st h = zrun zP sv C 233 60 [l0, l1] (.int (nI 2) :: st) h := zx_go rfl rfl
theorem zs_233_60 : zrun zP sv C 233 60 [l0, l1] [v1, .ref b] h = zrc (h.1 b) 13 (zbk (C 234 [.ref b, v1] h) (fun v h' => zrun zP sv C 233 63 [l0, l1] (v.toList ++ []) h') (fun E h' => some (.inr E, h'))) := zx_cv (x0 := 13) rfl rfl rfl rfl rfl ⟨Nat.le_of_ble_eq_true rfl, rfl⟩ (fun _ _ => rfl)
theorem zs_233_63 : zrun zP sv C 233 63 [l0, l1] [.int x] h = some (.inl (some (.int x)), h) := zx_end rfl rfl
theorem zs_234_0 : zrun zP sv C 234 0 [.val (.ref a), l1] st h = zrun zP sv C 234 1 [.val (.ref a), l1] (.ref a :: st) h := zx_go rfl rfl
theorem zs_234_1 : zrun zP sv C 234 1 [l0, l1] (.ref a :: st) h = zfld (h.1 a) 13 0 (fun v => zrun zP sv C 234 4 [l0, l1] (v :: st) h) := zx_getf rfl rfl
theorem zs_234_4 : zrun zP sv C 234 4 [l0, l1] st h = zrun zP sv C 234 5 [l0, l1] (.int 0 :: st) h := zx_go rfl rfl
theorem zs_234_5 : zrun zP sv C 234 5 [l0, l1] (.int x :: .ref a :: st) h = zael (h.1 a) 20 x (fun v => zrun zP sv C 234 6 [l0, l1] (v :: st) h) := zx_ald rfl rfl
theorem zs_234_6 : zrun zP sv C 234 6 [l0, l1] st h = zrun zP sv C 234 8 [l0, l1] (.int (nI 6) :: st) h := zx_go rfl rfl
theorem zs_234_8 : zrun zP sv C 234 8 [l0, l1] (.int y :: .int x :: st) h = if x = y then zrun zP sv C 234 11 [l0, l1] st h else zrun zP sv C 234 13 [l0, l1] st h := (zx_ic rfl rfl).trans zc1_if
theorem zs_234_11 : zrun zP sv C 234 11 [l0, .val (.int x)] st h = zrun zP sv C 234 12 [l0, .val (.int x)] (.int x :: st) h := zx_go rfl rfl
theorem zs_234_12 : zrun zP sv C 234 12 [l0, l1] [.int x] h = some (.inl (some (.int x)), h) := zx_end rfl rfl
theorem zs_234_13 : zrun zP sv C 234 13 [.val (.ref a), l1] st h = zrun zP sv C 234 14 [.val (.ref a), l1] (.ref a :: st) h := zx_go rfl rfl
theorem zs_234_14 : zrun zP sv C 234 14 [l0, l1] [.ref b] h = zrc (h.1 b) 13 (zbk (C 207 [.ref b] h) (fun v h' => zrun zP sv C 234 17 [l0, l1] (v.toList ++ []) h') (fun E h' => some (.inr E, h'))) := zx_cv (x0 := 13) rfl rfl rfl rfl rfl ⟨Nat.le_of_ble_eq_true rfl, rfl⟩ (fun _ _ => rfl)
theorem zs_234_17 : zrun zP sv C 234 17 [.val (.ref a), l1] st h = zrun zP sv C 234 18 [.val (.ref a), l1] (.ref a :: st) h := zx_go rfl rfl
theorem zs_234_18 : zrun zP sv C 234 18 [l0, l1] [.ref b] h = zrc (h.1 b) 13 (zbk (C 215 [.ref b] h) (fun v h' => zrun zP sv C 234 21 [l0, l1] (v.toList ++ []) h') (fun E h' => some (.inr E, h'))) := zx_cv (x0 := 13) rfl rfl rfl rfl rfl ⟨Nat.le_of_ble_eq_true rfl, rfl⟩ (fun _ _ => rfl)
theorem zs_234_21 : zrun zP sv C 234 21 [l0, l1] (.int x :: st) h = if x = 0 then zrun zP sv C 234 24 [l0, l1] st h else zrun zP sv C 234 28 [l0, l1] st h := (zx_if rfl rfl).trans zc1_if
theorem zs_234_24 : zrun zP sv C 234 24 [l0, .val (.int x)] st h = zrun zP sv C 234 25 [l0, .val (.int x)] (.int x :: st) h := zx_go rfl rfl
theorem zs_234_25 : zrun zP sv C 234 25 [l0, l1] st h = zrun zP sv C 234 26 [l0, l1] (.int (nI 1) :: st) h := zx_go rfl rfl
theorem zs_234_26 : zrun zP sv C 234 26 [l0, l1] (.int y :: .int x :: st) h = zrun zP sv C 234 27 [l0, l1] (.int (x + y) :: st) h := zx_go rfl rfl
theorem zs_234_27 : zrun zP sv C 234 27 [l0, l1] [.int x] h = some (.inl (some (.int x)), h) := zx_end rfl rfl
theorem zs_234_28 : zrun zP sv C 234 28 [.val (.ref a), l1] st h = zrun zP sv C 234 29 [.val (.ref a), l1] (.ref a :: st) h := zx_go rfl rfl
theorem zs_234_29 : zrun zP sv C 234 29 [.val (.ref a), l1] st h = zrun zP sv C 234 30 [.val (.ref a), l1] (.ref a :: st) h := zx_go rfl rfl
theorem zs_234_30 : zrun zP sv C 234 30 [l0, l1] (.ref a :: st) h = zfld (h.1 a) 13 0 (fun v => zrun zP sv C 234 33 [l0, l1] (v :: st) h) := zx_getf rfl rfl
theorem zs_234_33 : zrun zP sv C 234 33 [l0, l1] st h = zrun zP sv C 234 34 [l0, l1] (.int 0 :: st) h := zx_go rfl rfl
theorem zs_234_34 : zrun zP sv C 234 34 [l0, l1] (.int x :: .ref a :: st) h = zael (h.1 a) 20 x (fun v => zrun zP sv C 234 35 [l0, l1] (v :: st) h) := zx_ald rfl rfl
theorem zs_234_35 : zrun zP sv C 234 35 [l0, l1] [v1, .ref b] h = zrc (h.1 b) 13 (zbk (C 208 [.ref b, v1] h) (fun v h' => zrun zP sv C 234 38 [l0, l1] (v.toList ++ []) h') (fun E h' => some (.inr E, h'))) := zx_cv (x0 := 13) rfl rfl rfl rfl rfl ⟨Nat.le_of_ble_eq_true rfl, rfl⟩ (fun _ _ => rfl)
theorem zs_234_38 : zrun zP sv C 234 38 [.val (.ref a), l1] st h = zrun zP sv C 234 39 [.val (.ref a), l1] (.ref a :: st) h := zx_go rfl rfl
theorem zs_234_39 : zrun zP sv C 234 39 [.val (.ref a), l1] st h = zrun zP sv C 234 40 [.val (.ref a), l1] (.ref a :: st) h := zx_go rfl rfl
theorem zs_234_40 : zrun zP sv C 234 40 [l0, l1] (.ref a :: st) h = zfld (h.1 a) 13 0 (fun v => zrun zP sv C 234 43 [l0, l1] (v :: st) h) := zx_getf rfl rfl
theorem zs_234_43 : zrun zP sv C 234 43 [l0, l1] st h = zrun zP sv C 234 44 [l0, l1] (.int 0 :: st) h := zx_go rfl rfl
theorem zs_234_44 : zrun zP sv C 234 44 [l0, l1] (.int x :: .ref b :: st) h = zrun zP sv C 234 45 [l0, l1] (.int x :: .ref b :: .int x :: .ref b :: st) h := zx_go rfl rfl
theorem zs_234_45 : zrun zP sv C 234 45 [l0, l1] (.int x :: .ref a :: st) h = zael (h.1 a) 20 x (fun v => zrun zP sv C 234 46 [l0, l1] (v :: st) h) := zx_ald rfl rfl
theorem zs_234_46 : zrun zP sv C 234 46 [l0, l1] (.int x :: .int y :: .ref c :: st) h = zrun zP sv C 234 47 [l0, l1] (.int x :: .int y :: .ref c :: .int x :: st) h := zx_go rfl rfl
theorem zs_234_47 : zrun zP sv C 234 47 [l0, l1] st h = zrun zP sv C 234 48 [l0, l1] (.int (nI 1) :: st) h := zx_go rfl rfl
theorem zs_234_48 : zrun zP sv C 234 48 [l0, l1] (.int y :: .int x :: st) h = zrun zP sv C 234 49 [l0, l1] (.int (x + y) :: st) h := zx_go rfl rfl
theorem zs_234_49 : zrun zP sv C 234 49 [l0, l1] (.int y :: .int x :: .ref a :: st) h = zaset (h.1 a) 20 x (.int y) (fun c => zrun zP sv C 234 50 [l0, l1] st (zup h a c)) := zx_ast rfl rfl
theorem zs_234_50 : zrun zP sv C 234 50 [l0, l1] [v1, .ref b] h = zrc (h.1 b) 13 (zbk (C 201 [.ref b, v1] h) (fun v h' => zrun zP sv C 234 53 [l0, l1] (v.toList ++ []) h') (fun E h' => some (.inr E, h'))) := zx_cv (x0 := 13) rfl rfl rfl rfl rfl ⟨Nat.le_of_ble_eq_true rfl, rfl⟩ (fun _ _ => rfl)
theorem zs_234_53 : zrun zP sv C 234 53 [l0, l1] [.int x] h = some (.inl (some (.int x)), h) := zx_end rfl rfl
theorem zs_235_0 : zrun zP sv C 235 0 [.val (.ref a)] st h = zrun zP sv C 235 1 [.val (.ref a)] (.ref a :: st) h := zx_go rfl rfl
theorem zs_235_1 : zrun zP sv C 235 1 [l0] [.ref b] h = zrc (h.1 b) 13 (zbk (C 200 [.ref b] h) (fun v h' => zrun zP sv C 235 4 [l0] (v.toList ++ []) h') (fun E h' => some (.inr E, h'))) := zx_cv (x0 := 13) rfl rfl rfl rfl rfl ⟨Nat.le_of_ble_eq_true rfl, rfl⟩ (fun _ _ => rfl)
theorem zs_235_4 : zrun zP sv C 235 4 [.val (.ref a)] st h = zrun zP sv C 235 5 [.val (.ref a)] (.ref a :: st) h := zx_go rfl rfl
theorem zs_235_5 : zrun zP sv C 235 5 [.val (.ref a)] st h = zrun zP sv C 235 6 [.val (.ref a)] (.ref a :: st) h := zx_go rfl rfl
theorem zs_235_6 : zrun zP sv C 235 6 [l0] [.ref b, r0] h = zrc (h.1 b) 13 (zbk (C 233 [.ref b] h) (fun v h' => zrun zP sv C 235 9 [l0] (v.toList ++ [r0]) h') (fun E h' => some (.inr E, h'))) := zx_cv (x0 := 13) rfl rfl rfl rfl rfl ⟨Nat.le_of_ble_eq_true rfl, rfl⟩ (fun _ _ => rfl)
theorem zs_235_9 : zrun zP sv C 235 9 [l0] [v1, .ref b] h = zrc (h.1 b) 13 (zbk (C 202 [.ref b, v1] h) (fun v h' => zrun zP sv C 235 12 [l0] (v.toList ++ []) h') (fun E h' => some (.inr E, h'))) := zx_cv (x0 := 13) rfl rfl rfl rfl rfl ⟨Nat.le_of_ble_eq_true rfl, rfl⟩ (fun _ _ => rfl)
theorem zs_235_12 : zrun zP sv C 235 12 [l0] [.int x] h = some (.inl (some (.int x)), h) := zx_end rfl rfl
theorem zs_236_0 : zrun zP sv C 236 0 [.val (.ref a), l1, l2] st h = zrun zP sv C 236 1 [.val (.ref a), l1, l2] (.ref a :: st) h := zx_go rfl rfl
theorem zs_236_1 : zrun zP sv C 236 1 [l0, .val (.int x), l2] st h = zrun zP sv C 236 2 [l0, .val (.int x), l2] (.int x :: st) h := zx_go rfl rfl
theorem zs_236_2 : zrun zP sv C 236 2 [l0, l1, l2] [v1, .ref b] h = zrc (h.1 b) 13 (zbk (C 203 [.ref b, v1] h) (fun v h' => zrun zP sv C 236 5 [l0, l1, l2] (v.toList ++ []) h') (fun E h' => some (.inr E, h'))) := zx_cv (x0 := 13) rfl rfl rfl rfl rfl ⟨Nat.le_of_ble_eq_true rfl, rfl⟩ (fun _ _ => rfl)
theorem zs_236_5 : zrun zP sv C 236 5 [l0, l1, l2] (.int x :: st) h = if x = 0 then zrun zP sv C 236 8 [l0, l1, l2] st h else zrun zP sv C 236 10 [l0, l1, l2] st h := (zx_if rfl rfl).trans zc1_if
theorem zs_236_8 : zrun zP sv C 236 8 [l0, l1, l2] st h = zrun zP sv C 236 9 [l0, l1, l2] (.int (nI 1) :: st) h := zx_go rfl rfl
theorem zs_236_9 : zrun zP sv C 236 9 [l0, l1, l2] [.int x] h = some (.inl (some (.int x)), h) := zx_end rfl rfl
theorem zs_236_10 : zrun zP sv C 236 10 [.val (.ref a), l1, l2] st h = zrun zP sv C 236 11 [.val (.ref a), l1, l2] (.ref a :: st) h := zx_go rfl rfl
theorem zs_236_11 : zrun zP sv C 236 11 [l0, l1, l2] (.ref a :: st) h = zfld (h.1 a) 13 0 (fun v => zrun zP sv C 236 14 [l0, l1, l2] (v :: st) h) := zx_getf rfl rfl
theorem zs_236_14 : zrun zP sv C 236 14 [l0, l1, l2] st h = zrun zP sv C 236 15 [l0, l1, l2] (.int 0 :: st) h := zx_go rfl rfl
theorem zs_236_15 : zrun zP sv C 236 15 [l0, l1, l2] (.int x :: .ref b :: st) h = zrun zP sv C 236 16 [l0, l1, l2] (.int x :: .ref b :: .int x :: .ref b :: st) h := zx_go rfl rfl
theorem zs_236_16 : zrun zP sv C 236 16 [l0, l1, l2] (.int x :: .ref a :: st) h = zael (h.1 a) 20 x (fun v => zrun zP sv C 236 17 [l0, l1, l2] (v :: st) h) := zx_ald rfl rfl
theorem zs_236_17 : zrun zP sv C 236 17 [l0, l1, l2] st h = zrun zP sv C 236 18 [l0, l1, l2] (.int (nI 1) :: st) h := zx_go rfl rfl
theorem zs_236_18 : zrun zP sv C 236 18 [l0, l1, l2] (.int y :: .int x :: st) h = zrun zP sv C 236 19 [l0, l1, l2] (.int (x - y) :: st) h := zx_go rfl rfl
theorem zs_236_19 : zrun zP sv C 236 19 [l0, l1, l2] (.int y :: .int x :: .ref a :: st) h = zaset (h.1 a) 20 x (.int y) (fun c => zrun zP sv C 236 20 [l0, l1, l2] st (zup h a c)) := zx_ast rfl rfl
theorem zs_236_20 : zrun zP sv C 236 20 [l0, l1, l2] st h = zrun zP sv C 236 22 [l0, l1, l2] (.int (nI 9) :: st) h := zx_go rfl rfl
theorem zs_236_22 : zrun zP sv C 236 22 [l0, l1, l2] st h = zrun zP sv C 236 24 [l0, l1, l2] (.int (nI 63) :: st) h := zx_go rfl rfl
theorem zs_236_24 : zrun zP sv C 236 24 [l0, .val (.int x), l2] st h = zrun zP sv C 236 25 [l0, .val (.int x), l2] (.int x :: st) h := zx_go rfl rfl
theorem zs_236_25 : zrun zP sv C 236 25 [l0, l1, l2] (.int y :: .int x :: st) h = zrun zP sv C 236 26 [l0, l1, l2] (.int (x * y) :: st) h := zx_go rfl rfl
theorem zs_236_26 : zrun zP sv C 236 26 [l0, l1, l2] (.int y :: .int x :: st) h = zrun zP sv C 236 27 [l0, l1, l2] (.int (x + y) :: st) h := zx_go rfl rfl
theorem zs_236_27 (hs : znw l2 = true) : zrun zP sv C 236 27 [l0, l1, l2] (.int x :: st) h = zrun zP sv C 236 28 [l0, l1, .val (.int x)] st h := zx_st hs rfl rfl rfl rfl rfl rfl
theorem zs_236_28 : zrun zP sv C 236 28 [l0, l1, .val (.int x)] st h = zrun zP sv C 236 29 [l0, l1, .val (.int x)] (.int x :: st) h := zx_go rfl rfl
theorem zs_236_29 : zrun zP sv C 236 29 [l0, l1, l2] st h = zrun zP sv C 236 31 [l0, l1, l2] (.int (nI 9) :: st) h := zx_go rfl rfl
theorem zs_236_31 : zrun zP sv C 236 31 [l0, l1, l2] st h = zrun zP sv C 236 33 [l0, l1, l2] (.int (nI 63) :: st) h := zx_go rfl rfl
theorem zs_236_33 : zrun zP sv C 236 33 [.val (.ref a), l1, l2] st h = zrun zP sv C 236 34 [.val (.ref a), l1, l2] (.ref a :: st) h := zx_go rfl rfl
theorem zs_236_34 : zrun zP sv C 236 34 [l0, l1, l2] (.ref a :: st) h = zfld (h.1 a) 13 0 (fun v => zrun zP sv C 236 37 [l0, l1, l2] (v :: st) h) := zx_getf rfl rfl
theorem zs_236_37 : zrun zP sv C 236 37 [l0, l1, l2] st h = zrun zP sv C 236 38 [l0, l1, l2] (.int 0 :: st) h := zx_go rfl rfl
theorem zs_236_38 : zrun zP sv C 236 38 [l0, l1, l2] (.int x :: .ref a :: st) h = zael (h.1 a) 20 x (fun v => zrun zP sv C 236 39 [l0, l1, l2] (v :: st) h) := zx_ald rfl rfl
theorem zs_236_39 : zrun zP sv C 236 39 [l0, l1, l2] (.int y :: .int x :: st) h = zrun zP sv C 236 40 [l0, l1, l2] (.int (x * y) :: st) h := zx_go rfl rfl
theorem zs_236_40 : zrun zP sv C 236 40 [l0, l1, l2] (.int y :: .int x :: st) h = zrun zP sv C 236 41 [l0, l1, l2] (.int (x + y) :: st) h := zx_go rfl rfl
theorem zs_236_41 : zrun zP sv C 236 41 [l0, l1, l2] (.int y :: .int x :: st) h = if x < y then zrun zP sv C 236 44 [l0, l1, l2] st h else zrun zP sv C 236 65 [l0, l1, l2] st h := (zx_ic rfl rfl).trans zc3_if
theorem zs_236_44 : zrun zP sv C 236 44 [.val (.ref a), l1, l2] st h = zrun zP sv C 236 45 [.val (.ref a), l1, l2] (.ref a :: st) h := zx_go rfl rfl
theorem zs_236_45 : zrun zP sv C 236 45 [l0, l1, l2] (.ref a :: st) h = zfld (h.1 a) 13 0 (fun v => zrun zP sv C 236 48 [l0, l1, l2] (v :: st) h) := zx_getf rfl rfl
theorem zs_236_48 : zrun zP sv C 236 48 [l0, l1, .val (.int x)] st h = zrun zP sv C 236 49 [l0, l1, .val (.int x)] (.int x :: st) h := zx_go rfl rfl
theorem zs_236_49 : zrun zP sv C 236 49 [.val (.ref a), l1, l2] st h = zrun zP sv C 236 50 [.val (.ref a), l1, l2] (.ref a :: st) h := zx_go rfl rfl
theorem zs_236_50 : zrun zP sv C 236 50 [l0, l1, l2] (.ref a :: st) h = zfld (h.1 a) 13 0 (fun v => zrun zP sv C 236 53 [l0, l1, l2] (v :: st) h) := zx_getf rfl rfl
theorem zs_236_53 : zrun zP sv C 236 53 [l0, l1, .val (.int x)] st h = zrun zP sv C 236 54 [l0, l1, .val (.int x)] (.int x :: st) h := zx_go rfl rfl
theorem zs_236_54 : zrun zP sv C 236 54 [l0, l1, l2] st h = zrun zP sv C 236 56 [l0, l1, l2] (.int (nI 63) :: st) h := zx_go rfl rfl
theorem zs_236_56 : zrun zP sv C 236 56 [l0, l1, l2] (.int y :: .int x :: st) h = zrun zP sv C 236 57 [l0, l1, l2] (.int (x + y) :: st) h := zx_go rfl rfl
theorem zs_236_57 : zrun zP sv C 236 57 [l0, l1, l2] (.int x :: .ref a :: st) h = zael (h.1 a) 20 x (fun v => zrun zP sv C 236 58 [l0, l1, l2] (v :: st) h) := zx_ald rfl rfl
theorem zs_236_58 : zrun zP sv C 236 58 [l0, l1, l2] (.int y :: .int x :: .ref a :: st) h = zaset (h.1 a) 20 x (.int y) (fun c => zrun zP sv C 236 59 [l0, l1, l2] st (zup h a c)) := zx_ast rfl rfl
theorem zs_236_59 : zrun zP sv C 236 59 [l0, l1, .val (.int x)] st h = zrun zP sv C 236 62 [l0, l1, .val (.int (x + (nI 1)))] st h := zx_ii rfl rfl rfl rfl rfl
theorem zs_236_62 : zrun zP sv C 236 62 [l0, l1, l2] st h = zrun zP sv C 236 28 [l0, l1, l2] st h := zx_go rfl rfl
theorem zs_236_65 : zrun zP sv C 236 65 [.val (.ref a), l1, l2] st h = zrun zP sv C 236 66 [.val (.ref a), l1, l2] (.ref a :: st) h := zx_go rfl rfl
theorem zs_236_66 : zrun zP sv C 236 66 [.val (.ref a), l1, l2] st h = zrun zP sv C 236 67 [.val (.ref a), l1, l2] (.ref a :: st) h := zx_go rfl rfl
theorem zs_236_67 : zrun zP sv C 236 67 [l0, l1, l2] (.ref a :: st) h = zfld (h.1 a) 13 0 (fun v => zrun zP sv C 236 70 [l0, l1, l2] (v :: st) h) := zx_getf rfl rfl
theorem zs_236_70 : zrun zP sv C 236 70 [l0, l1, l2] st h = zrun zP sv C 236 71 [l0, l1, l2] (.int 0 :: st) h := zx_go rfl rfl
theorem zs_236_71 : zrun zP sv C 236 71 [l0, l1, l2] (.int x :: .ref a :: st) h = zael (h.1 a) 20 x (fun v => zrun zP sv C 236 72 [l0, l1, l2] (v :: st) h) := zx_ald rfl rfl
theorem zs_236_72 : zrun zP sv C 236 72 [l0, l1, l2] [v1, .ref b] h = zrc (h.1 b) 13 (zbk (C 201 [.ref b, v1] h) (fun v h' => zrun zP sv C 236 75 [l0, l1, l2] (v.toList ++ []) h') (fun E h' => some (.inr E, h'))) := zx_cv (x0 := 13) rfl rfl rfl rfl rfl ⟨Nat.le_of_ble_eq_true rfl, rfl⟩ (fun _ _ => rfl)
theorem zs_236_75 : zrun zP sv C 236 75 [l0, l1, l2] [.int x] h = some (.inl (some (.int x)), h) := zx_end rfl rfl
theorem zs_237_0 : zrun zP sv C 237 0 [.val (.ref a), l1] st h = zrun zP sv C 237 1 [.val (.ref a), l1] (.ref a :: st) h := zx_go rfl rfl
theorem zs_237_1 : zrun zP sv C 237 1 [l0, l1] [.ref b] h = zrc (h.1 b) 13 (zbk (C 200 [.ref b] h) (fun v h' => zrun zP sv C 237 4 [l0, l1] (v.toList ++ []) h') (fun E h' => some (.inr E, h'))) := zx_cv (x0 := 13) rfl rfl rfl rfl rfl ⟨Nat.le_of_ble_eq_true rfl, rfl⟩ (fun _ _ => rfl)
theorem zs_237_4 : zrun zP sv C 237 4 [.val (.ref a), l1] st h = zrun zP sv C 237 5 [.val (.ref a), l1] (.ref a :: st) h := zx_go rfl rfl
theorem zs_237_5 : zrun zP sv C 237 5 [.val (.ref a), l1] st h = zrun zP sv C 237 6 [.val (.ref a), l1] (.ref a :: st) h := zx_go rfl rfl
theorem zs_237_6 : zrun zP sv C 237 6 [l0, .val (.int x)] st h = zrun zP sv C 237 7 [l0, .val (.int x)] (.int x :: st) h := zx_go rfl rfl
theorem zs_237_7 : zrun zP sv C 237 7 [l0, l1] [v1, .ref b, r0] h = zrc (h.1 b) 13 (zbk (C 236 [.ref b, v1] h) (fun v h' => zrun zP sv C 237 10 [l0, l1] (v.toList ++ [r0]) h') (fun E h' => some (.inr E, h'))) := zx_cv (x0 := 13) rfl rfl rfl rfl rfl ⟨Nat.le_of_ble_eq_true rfl, rfl⟩ (fun _ _ => rfl)
theorem zs_237_10 : zrun zP sv C 237 10 [l0, l1] [v1, .ref b] h = zrc (h.1 b) 13 (zbk (C 202 [.ref b, v1] h) (fun v h' => zrun zP sv C 237 13 [l0, l1] (v.toList ++ []) h') (fun E h' => some (.inr E, h'))) := zx_cv (x0 := 13) rfl rfl rfl rfl rfl ⟨Nat.le_of_ble_eq_true rfl, rfl⟩ (fun _ _ => rfl)
theorem zs_237_13 : zrun zP sv C 237 13 [l0, l1] [.int x] h = some (.inl (some (.int x)), h) := zx_end rfl rfl
theorem zs_238_0 : zrun zP sv C 238 0 [.val (.ref a), l1, l2, l3] st h = zrun zP sv C 238 1 [.val (.ref a), l1, l2, l3] (.ref a :: st) h := zx_go rfl rfl
theorem zs_238_1 : zrun zP sv C 238 1 [l0, .val (.int x), l2, l3] st h = zrun zP sv C 238 2 [l0, .val (.int x), l2, l3] (.int x :: st) h := zx_go rfl rfl
theorem zs_238_2 : zrun zP sv C 238 2 [l0, l1, l2, l3] [v1, .ref b] h = zrc (h.1 b) 13 (zbk (C 203 [.ref b, v1] h) (fun v h' => zrun zP sv C 238 5 [l0, l1, l2, l3] (v.toList ++ []) h') (fun E h' => some (.inr E, h'))) := zx_cv (x0 := 13) rfl rfl rfl rfl rfl ⟨Nat.le_of_ble_eq_true rfl, rfl⟩ (fun _ _ => rfl)
theorem zs_238_5 : zrun zP sv C 238 5 [l0, l1, l2, l3] (.int x :: st) h = if x = 0 then zrun zP sv C 238 8 [l0, l1, l2, l3] st h else zrun zP sv C 238 10 [l0, l1, l2, l3] st h := (zx_if rfl rfl).trans zc1_if
theorem zs_238_8 : zrun zP sv C 238 8 [l0, l1, l2, l3] st h = zrun zP sv C 238 9 [l0, l1, l2, l3] (.int (nI 1) :: st) h := zx_go rfl rfl
theorem zs_238_9 : zrun zP sv C 238 9 [l0, l1, l2, l3] [.int x] h = some (.inl (some (.int x)), h) := zx_end rfl rfl
theorem zs_238_10 : zrun zP sv C 238 10 [.val (.ref a), l1, l2, l3] st h = zrun zP sv C 238 11 [.val (.ref a), l1, l2, l3] (.ref a :: st) h := zx_go rfl rfl
theorem zs_238_11 : zrun zP sv C 238 11 [l0, .val (.int x), l2, l3] st h = zrun zP sv C 238 12 [l0, .val (.int x), l2, l3] (.int x :: st) h := zx_go rfl rfl
theorem zs_238_12 : zrun zP sv C 238 12 [l0, l1, l2, l3] [v1, .ref b] h = zrc (h.1 b) 13 (zbk (C 206 [.ref b, v1] h) (fun v h' => zrun zP sv C 238 15 [l0, l1, l2, l3] (v.toList ++ []) h') (fun E h' => some (.inr E, h'))) := zx_cv (x0 := 13) rfl rfl rfl rfl rfl ⟨Nat.le_of_ble_eq_true rfl, rfl⟩ (fun _ _ => rfl)
theorem zs_238_15 : zrun zP sv C 238 15 [.val (.ref a), l1, l2, l3] st h = zrun zP sv C 238 16 [.val (.ref a), l1, l2, l3] (.ref a :: st) h := zx_go rfl rfl
theorem zs_238_16 : zrun zP sv C 238 16 [l0, l1, l2, l3] (.ref a :: st) h = zfld (h.1 a) 13 8 (fun v => zrun zP sv C 238 19 [l0, l1, l2, l3] (v :: st) h) := zx_getf rfl rfl
theorem zs_238_19 (hs : znw l2 = true) : zrun zP sv C 238 19 [l0, l1, l2, l3] (.int x :: st) h = zrun zP sv C 238 20 [l0, l1, .val (.int x), l3] st h := zx_st hs rfl rfl rfl rfl rfl rfl
theorem zs_238_20 : zrun zP sv C 238 20 [.val (.ref a), l1, l2, l3] st h = zrun zP sv C 238 21 [.val (.ref a), l1, l2, l3] (.ref a :: st) h := zx_go rfl rfl
theorem zs_238_21 : zrun zP sv C 238 21 [l0, l1, l2, l3] st h = zrun zP sv C 238 22 [l0, l1, l2, l3] (.int 0 :: st) h := zx_go rfl rfl
theorem zs_238_22 : zrun zP sv C 238 22 [l0, l1, l2, l3] (.int x :: .ref a :: st) h = zpfd (h.1 a) 13 11 0 (.int x) (fun c => zrun zP sv C 238 25 [l0, l1, l2, l3] st (zup h a c)) := zx_putf (x0 := 0) rfl rfl
theorem zs_238_25 : zrun zP sv C 238 25 [.val (.ref a), l1, l2, l3] st h = zrun zP sv C 238 26 [.val (.ref a), l1, l2, l3] (.ref a :: st) h := zx_go rfl rfl
theorem zs_238_26 : zrun zP sv C 238 26 [l0, l1, l2, l3] st h = zrun zP sv C 238 27 [l0, l1, l2, l3] (.int 0 :: st) h := zx_go rfl rfl
theorem zs_238_27 : zrun zP sv C 238 27 [l0, l1, l2, l3] [v1, .ref b] h = zrc (h.1 b) 13 (zbk (C 222 [.ref b, v1] h) (fun v h' => zrun zP sv C 238 30 [l0, l1, l2, l3] (v.toList ++ []) h') (fun E h' => some (.inr E, h'))) := zx_cv (x0 := 13) rfl rfl rfl rfl rfl ⟨Nat.le_of_ble_eq_true rfl, rfl⟩ (fun _ _ => rfl)
theorem zs_238_30 (hs : znw l3 = true) : zrun zP sv C 238 30 [l0, l1, l2, l3] (.int x :: st) h = zrun zP sv C 238 31 [l0, l1, l2, .val (.int x)] st h := zx_st hs rfl rfl rfl rfl rfl rfl
theorem zs_238_31 : zrun zP sv C 238 31 [.val (.ref a), l1, l2, l3] st h = zrun zP sv C 238 32 [.val (.ref a), l1, l2, l3] (.ref a :: st) h := zx_go rfl rfl
theorem zs_238_32 : zrun zP sv C 238 32 [l0, l1, l2, l3] [.ref b] h = zrc (h.1 b) 13 (zbk (C 207 [.ref b] h) (fun v h' => zrun zP sv C 238 35 [l0, l1, l2, l3] (v.toList ++ []) h') (fun E h' => some (.inr E, h'))) := zx_cv (x0 := 13) rfl rfl rfl rfl rfl ⟨Nat.le_of_ble_eq_true rfl, rfl⟩ (fun _ _ => rfl)
theorem zs_238_35 : zrun zP sv C 238 35 [.val (.ref a), l1, l2, l3] st h = zrun zP sv C 238 36 [.val (.ref a), l1, l2, l3] (.ref a :: st) h := zx_go rfl rfl
theorem zs_238_36 : zrun zP sv C 238 36 [l0, .val (.int x), l2, l3] st h = zrun zP sv C 238 37 [l0, .val (.int x), l2, l3] (.int x :: st) h := zx_go rfl rfl
theorem zs_238_37 : zrun zP sv C 238 37 [l0, l1, l2, l3] [v1, .ref b] h = zrc (h.1 b) 13 (zbk (C 208 [.ref b, v1] h) (fun v h' => zrun zP sv C 238 40 [l0, l1, l2, l3] (v.toList ++ []) h') (fun E h' => some (.inr E, h'))) := zx_cv (x0 := 13) rfl rfl rfl rfl rfl ⟨Nat.le_of_ble_eq_true rfl, rfl⟩ (fun _ _ => rfl)
theorem zs_238_40 : zrun zP sv C 238 40 [.val (.ref a), l1, l2, l3] st h = zrun zP sv C 238 41 [.val (.ref a), l1, l2, l3] (.ref a :: st) h := zx_go rfl rfl
theorem zs_238_41 : zrun zP sv C 238 41 [l0, l1, l2, l3] (.ref a :: st) h = zfld (h.1 a) 13 0 (fun v => zrun zP sv C 238 44 [l0, l1, l2, l3] (v :: st) h) := zx_getf rfl rfl
theorem zs_238_44 : zrun zP sv C 238 44 [l0, l1, l2, l3] st h = zrun zP sv C 238 45 [l0, l1, l2, l3] (.int (nI 2) :: st) h := zx_go rfl rfl
theorem zs_238_45 : zrun zP sv C 238 45 [l0, l1, l2, l3] (.int x :: .ref b :: st) h = zrun zP sv C 238 46 [l0, l1, l2, l3] (.int x :: .ref b :: .int x :: .ref b :: st) h := zx_go rfl rfl
theorem zs_238_46 : zrun zP sv C 238 46 [l0, l1, l2, l3] (.int x :: .ref a :: st) h = zael (h.1 a) 20 x (fun v => zrun zP sv C 238 47 [l0, l1, l2, l3] (v :: st) h) := zx_ald rfl rfl
theorem zs_238_47 : zrun zP sv C 238 47 [l0, l1, .val (.int x), l3] st h = zrun zP sv C 238 48 [l0, l1, .val (.int x), l3] (.int x :: st) h := zx_go rfl rfl
theorem zs_238_48 : zrun zP sv C 238 48 [.val (.ref a), l1, l2, l3] st h = zrun zP sv C 238 49 [.val (.ref a), l1, l2, l3] (.ref a :: st) h := zx_go rfl rfl
theorem zs_238_49 : zrun zP sv C 238 49 [l0, l1, l2, l3] (.ref a :: st) h = zfld (h.1 a) 13 8 (fun v => zrun zP sv C 238 52 [l0, l1, l2, l3] (v :: st) h) := zx_getf rfl rfl
theorem zs_238_52 : zrun zP sv C 238 52 [l0, l1, l2, l3] (.int y :: .int x :: st) h = zrun zP sv C 238 53 [l0, l1, l2, l3] (.int (x - y) :: st) h := zx_go rfl rfl
theorem zs_238_53 : zrun zP sv C 238 53 [l0, l1, l2, l3] (.int y :: .int x :: st) h = zrun zP sv C 238 54 [l0, l1, l2, l3] (.int (x + y) :: st) h := zx_go rfl rfl
theorem zs_238_54 : zrun zP sv C 238 54 [l0, l1, l2, l3] (.int y :: .int x :: .ref a :: st) h = zaset (h.1 a) 20 x (.int y) (fun c => zrun zP sv C 238 55 [l0, l1, l2, l3] st (zup h a c)) := zx_ast rfl rfl
theorem zs_238_55 : zrun zP sv C 238 55 [.val (.ref a), l1, l2, l3] st h = zrun zP sv C 238 56 [.val (.ref a), l1, l2, l3] (.ref a :: st) h := zx_go rfl rfl
theorem zs_238_56 : zrun zP sv C 238 56 [l0, l1, .val (.int x), l3] st h = zrun zP sv C 238 57 [l0, l1, .val (.int x), l3] (.int x :: st) h := zx_go rfl rfl
theorem zs_238_57 : zrun zP sv C 238 57 [.val (.ref a), l1, l2, l3] st h = zrun zP sv C 238 58 [.val (.ref a), l1, l2, l3] (.ref a :: st) h := zx_go rfl rfl
theorem zs_238_58 : zrun zP sv C 238 58 [l0, l1, l2, l3] (.ref a :: st) h = zfld (h.1 a) 13 8 (fun v => zrun zP sv C 238 61 [l0, l1, l2, l3] (v :: st) h) := zx_getf rfl rfl
theorem zs_238_61 : zrun zP sv C 238 61 [l0, l1, l2, l3] (.int y :: .int x :: st) h = zrun zP sv C 238 62 [l0, l1, l2, l3] (.int (x - y) :: st) h := zx_go rfl rfl
theorem zs_238_62 : zrun zP sv C 238 62 [l0, l1, l2, l3] [v1, .ref b] h = zrc (h.1 b) 13 (zbk (C 201 [.ref b, v1] h) (fun v h' => zrun zP sv C 238 65 [l0, l1, l2, l3] (v.toList ++ []) h') (fun E h' => some (.inr E, h'))) := zx_cv (x0 := 13) rfl rfl rfl rfl rfl ⟨Nat.le_of_ble_eq_true rfl, rfl⟩ (fun _ _ => rfl)
theorem zs_238_65 : zrun zP sv C 238 65 [l0, l1, l2, l3] [.int x] h = some (.inl (some (.int x)), h) := zx_end rfl rfl
theorem zs_239_0 : zrun zP sv C 239 0 [.val (.ref a), l1] st h = zrun zP sv C 239 1 [.val (.ref a), l1] (.ref a :: st) h := zx_go rfl rfl
theorem zs_239_1 : zrun zP sv C 239 1 [l0, l1] [.ref b] h = zrc (h.1 b) 13 (zbk (C 200 [.ref b] h) (fun v h' => zrun zP sv C 239 4 [l0, l1] (v.toList ++ []) h') (fun E h' => some (.inr E, h'))) := zx_cv (x0 := 13) rfl rfl rfl rfl rfl ⟨Nat.le_of_ble_eq_true rfl, rfl⟩ (fun _ _ => rfl)
theorem zs_239_4 : zrun zP sv C 239 4 [.val (.ref a), l1] st h = zrun zP sv C 239 5 [.val (.ref a), l1] (.ref a :: st) h := zx_go rfl rfl
theorem zs_239_5 : zrun zP sv C 239 5 [.val (.ref a), l1] st h = zrun zP sv C 239 6 [.val (.ref a), l1] (.ref a :: st) h := zx_go rfl rfl
theorem zs_239_6 : zrun zP sv C 239 6 [l0, .val (.int x)] st h = zrun zP sv C 239 7 [l0, .val (.int x)] (.int x :: st) h := zx_go rfl rfl
theorem zs_239_7 : zrun zP sv C 239 7 [l0, l1] [v1, .ref b, r0] h = zrc (h.1 b) 13 (zbk (C 238 [.ref b, v1] h) (fun v h' => zrun zP sv C 239 10 [l0, l1] (v.toList ++ [r0]) h') (fun E h' => some (.inr E, h'))) := zx_cv (x0 := 13) rfl rfl rfl rfl rfl ⟨Nat.le_of_ble_eq_true rfl, rfl⟩ (fun _ _ => rfl)
theorem zs_239_10 : zrun zP sv C 239 10 [l0, l1] [v1, .ref b] h = zrc (h.1 b) 13 (zbk (C 202 [.ref b, v1] h) (fun v h' => zrun zP sv C 239 13 [l0, l1] (v.toList ++ []) h') (fun E h' => some (.inr E, h'))) := zx_cv (x0 := 13) rfl rfl rfl rfl rfl ⟨Nat.le_of_ble_eq_true rfl, rfl⟩ (fun _ _ => rfl)
theorem zs_239_13 : zrun zP sv C 239 13 [l0, l1] [.int x] h = some (.inl (some (.int x)), h) := zx_end rfl rfl
theorem zs_240_0 : zrun zP sv C 240 0 [.val (.ref a), l1, l2, l3] st h = zrun zP sv C 240 1 [.val (.ref a), l1, l2, l3] (.ref a :: st) h := zx_go rfl rfl
theorem zs_240_1 : zrun zP sv C 240 1 [l0, .val (.int x), l2, l3] st h = zrun zP sv C 240 2 [l0, .val (.int x), l2, l3] (.int x :: st) h := zx_go rfl rfl
theorem zs_240_2 : zrun zP sv C 240 2 [l0, l1, l2, l3] [v1, .ref b] h = zrc (h.1 b) 13 (zbk (C 203 [.ref b, v1] h) (fun v h' => zrun zP sv C 240 5 [l0, l1, l2, l3] (v.toList ++ []) h') (fun E h' => some (.inr E, h'))) := zx_cv (x0 := 13) rfl rfl rfl rfl rfl ⟨Nat.le_of_ble_eq_true rfl, rfl⟩ (fun _ _ => rfl)
theorem zs_240_5 : zrun zP sv C 240 5 [l0, l1, l2, l3] (.int x :: st) h = if x = 0 then zrun zP sv C 240 8 [l0, l1, l2, l3] st h else zrun zP sv C 240 10 [l0, l1, l2, l3] st h := (zx_if rfl rfl).trans zc1_if
theorem zs_240_8 : zrun zP sv C 240 8 [l0, l1, l2, l3] st h = zrun zP sv C 240 9 [l0, l1, l2, l3] (.int (nI 1) :: st) h := zx_go rfl rfl
theorem zs_240_9 : zrun zP sv C 240 9 [l0, l1, l2, l3] [.int x] h = some (.inl (some (.int x)), h) := zx_end rfl rfl
theorem zs_240_10 : zrun zP sv C 240 10 [l0, l1, .val (.int x), l3] st h = zrun zP sv C 240 11 [l0, l1, .val (.int x), l3] (.int x :: st) h := zx_go rfl rfl
theorem zs_240_11 : zrun zP sv C 240 11 [l0, l1, l2, l3] [v0] h = zbk (C 204 [v0] h) (fun v h' => zrun zP sv C 240 14 [l0, l1, l2, l3] (v.toList ++ []) h') (fun E h' => some (.inr E, h')) := zx_cs rfl rfl rfl rfl ⟨Nat.le_of_ble_eq_true rfl, rfl⟩ (fun _ _ => rfl)
theorem zs_240_14 : zrun zP sv C 240 14 [l0, l1, l2, l3] (.int x :: st) h = if x = 0 then zrun zP sv C 240 17 [l0, l1, l2, l3] st h else zrun zP sv C 240 19 [l0, l1, l2, l3] st h := (zx_if rfl rfl).trans zc1_if
theorem zs_240_17 : zrun zP sv C 240 17 [l0, l1, l2, l3] st h = zrun zP sv C 240 18 [l0, l1, l2, l3] (.int (nI 2) :: st) h := zx_go rfl rfl
theorem zs_240_18 : zrun zP sv C 240 18 [l0, l1, l2, l3] [.int x] h = some (.inl (some (.int x)), h) := zx_end rfl rfl
theorem zs_240_19 : zrun zP sv C 240 19 [.val (.ref a), l1, l2, l3] st h = zrun zP sv C 240 20 [.val (.ref a), l1, l2, l3] (.ref a :: st) h := zx_go rfl rfl
theorem zs_240_20 : zrun zP sv C 240 20 [l0, l1, l2, l3] (.ref a :: st) h = zfld (h.1 a) 13 0 (fun v => zrun zP sv C 240 23 [l0, l1, l2, l3] (v :: st) h) := zx_getf rfl rfl
theorem zs_240_23 : zrun zP sv C 240 23 [l0, l1, l2, l3] st h = zrun zP sv C 240 24 [l0, l1, l2, l3] (.int 0 :: st) h := zx_go rfl rfl
theorem zs_240_24 : zrun zP sv C 240 24 [l0, l1, l2, l3] (.int x :: .ref a :: st) h = zael (h.1 a) 20 x (fun v => zrun zP sv C 240 25 [l0, l1, l2, l3] (v :: st) h) := zx_ald rfl rfl
theorem zs_240_25 : zrun zP sv C 240 25 [l0, l1, l2, l3] st h = zrun zP sv C 240 27 [l0, l1, l2, l3] (.int (nI 6) :: st) h := zx_go rfl rfl
theorem zs_240_27 : zrun zP sv C 240 27 [l0, l1, l2, l3] (.int y :: .int x :: st) h = if x = y then zrun zP sv C 240 30 [l0, l1, l2, l3] st h else zrun zP sv C 240 32 [l0, l1, l2, l3] st h := (zx_ic rfl rfl).trans zc1_if
theorem zs_240_30 : zrun zP sv C 240 30 [l0, l1, l2, l3] st h = zrun zP sv C 240 31 [l0, l1, l2, l3] (.int (nI 3) :: st) h := zx_go rfl rfl
theorem zs_240_31 : zrun zP sv C 240 31 [l0, l1, l2, l3] [.int x] h = some (.inl (some (.int x)), h) := zx_end rfl rfl
theorem zs_240_32 : zrun zP sv C 240 32 [.val (.ref a), l1, l2, l3] st h = zrun zP sv C 240 33 [.val (.ref a), l1, l2, l3] (.ref a :: st) h := zx_go rfl rfl
theorem zs_240_33 : zrun zP sv C 240 33 [l0, .val (.int x), l2, l3] st h = zrun zP sv C 240 34 [l0, .val (.int x), l2, l3] (.int x :: st) h := zx_go rfl rfl
theorem zs_240_34 : zrun zP sv C 240 34 [l0, l1, l2, l3] [v1, .ref b] h = zrc (h.1 b) 13 (zbk (C 206 [.ref b, v1] h) (fun v h' => zrun zP sv C 240 37 [l0, l1, l2, l3] (v.toList ++ []) h') (fun E h' => some (.inr E, h'))) := zx_cv (x0 := 13) rfl rfl rfl rfl rfl ⟨Nat.le_of_ble_eq_true rfl, rfl⟩ (fun _ _ => rfl)
theorem zs_240_37 : zrun zP sv C 240 37 [.val (.ref a), l1, l2, l3] st h = zrun zP sv C 240 38 [.val (.ref a), l1, l2, l3] (.ref a :: st) h := zx_go rfl rfl
theorem zs_240_38 : zrun zP sv C 240 38 [l0, l1, l2, l3] st h = zrun zP sv C 240 39 [l0, l1, l2, l3] (.int 0 :: st) h := zx_go rfl rfl
theorem zs_240_39 : zrun zP sv C 240 39 [l0, l1, l2, l3] (.int x :: .ref a :: st) h = zpfd (h.1 a) 13 11 0 (.int x) (fun c => zrun zP sv C 240 42 [l0, l1, l2, l3] st (zup h a c)) := zx_putf (x0 := 0) rfl rfl
theorem zs_240_42 : zrun zP sv C 240 42 [.val (.ref a), l1, l2, l3] st h = zrun zP sv C 240 43 [.val (.ref a), l1, l2, l3] (.ref a :: st) h := zx_go rfl rfl
theorem zs_240_43 : zrun zP sv C 240 43 [l0, l1, l2, l3] st h = zrun zP sv C 240 44 [l0, l1, l2, l3] (.int 0 :: st) h := zx_go rfl rfl
theorem zs_240_44 : zrun zP sv C 240 44 [l0, l1, .val (.int x), l3] st h = zrun zP sv C 240 45 [l0, l1, .val (.int x), l3] (.int x :: st) h := zx_go rfl rfl
theorem zs_240_45 : zrun zP sv C 240 45 [l0, l1, l2, l3] st h = zrun zP sv C 240 47 [l0, l1, l2, l3] (.int (nI 97) :: st) h := zx_go rfl rfl
theorem zs_240_47 : zrun zP sv C 240 47 [l0, l1, l2, l3] (.int y :: .int x :: st) h = zrun zP sv C 240 48 [l0, l1, l2, l3] (.int (x - y) :: st) h := zx_go rfl rfl
theorem zs_240_48 : zrun zP sv C 240 48 [l0, l1, l2, l3] [v2, v1, .ref b] h = zrc (h.1 b) 13 (zbk (C 224 [.ref b, v1, v2] h) (fun v h' => zrun zP sv C 240 51 [l0, l1, l2, l3] (v.toList ++ []) h') (fun E h' => some (.inr E, h'))) := zx_cv (x0 := 13) rfl rfl rfl rfl rfl ⟨Nat.le_of_ble_eq_true rfl, rfl⟩ (fun _ _ => rfl)
theorem zs_240_51 (hs : znw l3 = true) : zrun zP sv C 240 51 [l0, l1, l2, l3] (.int x :: st) h = zrun zP sv C 240 52 [l0, l1, l2, .val (.int x)] st h := zx_st hs rfl rfl rfl rfl rfl rfl
theorem zs_240_52 : zrun zP sv C 240 52 [.val (.ref a), l1, l2, l3] st h = zrun zP sv C 240 53 [.val (.ref a), l1, l2, l3] (.ref a :: st) h := zx_go rfl rfl
theorem zs_240_53 : zrun zP sv C 240 53 [l0, l1, l2, l3] [.ref b] h = zrc (h.1 b) 13 (zbk (C 207 [.ref b] h) (fun v h' => zrun zP sv C 240 56 [l0, l1, l2, l3] (v.toList ++ []) h') (fun E h' => some (.inr E, h'))) := zx_cv (x0 := 13) rfl rfl rfl rfl rfl ⟨Nat.le_of_ble_eq_true rfl, rfl⟩ (fun _ _ => rfl)
theorem zs_240_56 : zrun zP sv C 240 56 [.val (.ref a), l1, l2, l3] st h = zrun zP sv C 240 57 [.val (.ref a), l1, l2, l3] (.ref a :: st) h := zx_go rfl rfl
theorem zs_240_57 : zrun zP sv C 240 57 [l0, l1, l2, l3] st h = zrun zP sv C 240 58 [l0, l1, l2, l3] (.int 0 :: st) h := zx_go rfl rfl
theorem zs_240_58 : zrun zP sv C 240 58 [l0, l1, l2, l3] (.int x :: .ref a :: st) h = zpfd (h.1 a) 13 11 0 (.int x) (fun c => zrun zP sv C 240 61 [l0, l1, l2, l3] st (zup h a c)) := zx_putf (x0 := 0) rfl rfl
theorem zs_240_61 : zrun zP sv C 240 61 [.val (.ref a), l1, l2, l3] st h = zrun zP sv C 240 62 [.val (.ref a), l1, l2, l3] (.ref a :: st) h := zx_go rfl rfl
theorem zs_240_62 : zrun zP sv C 240 62 [l0, l1, l2, l3] st h = zrun zP sv C 240 63 [l0, l1, l2, l3] (.int 0 :: st) h := zx_go rfl rfl
theorem zs_240_63 : zrun zP sv C 240 63 [l0, l1, l2, l3] [v1, .ref b] h = zrc (h.1 b) 13 (zbk (C 222 [.ref b, v1] h) (fun v h' => zrun zP sv C 240 66 [l0, l1, l2, l3] (v.toList ++ []) h') (fun E h' => some (.inr E, h'))) := zx_cv (x0 := 13) rfl rfl rfl rfl rfl ⟨Nat.le_of_ble_eq_true rfl, rfl⟩ (fun _ _ => rfl)
theorem zs_240_66 (hs : znw l3 = true) : zrun zP sv C 240 66 [l0, l1, l2, l3] (.int x :: st) h = zrun zP sv C 240 67 [l0, l1, l2, .val (.int x)] st h := zx_st hs rfl rfl rfl rfl rfl rfl
theorem zs_240_67 : zrun zP sv C 240 67 [.val (.ref a), l1, l2, l3] st h = zrun zP sv C 240 68 [.val (.ref a), l1, l2, l3] (.ref a :: st) h := zx_go rfl rfl
theorem zs_240_68 : zrun zP sv C 240 68 [l0, l1, l2, l3] st h = zrun zP sv C 240 69 [l0, l1, l2, l3] (.int (nI 3) :: st) h := zx_go rfl rfl
theorem zs_240_69 : zrun zP sv C 240 69 [l0, l1, l2, l3] [v1, .ref b] h = zrc (h.1 b) 13 (zbk (C 234 [.ref b, v1] h) (fun v h' => zrun zP sv C 240 72 [l0, l1, l2, l3] (v.toList ++ []) h') (fun E h' => some (.inr E, h'))) := zx_cv (x0 := 13) rfl rfl rfl rfl rfl ⟨Nat.le_of_ble_eq_true rfl, rfl⟩ (fun _ _ => rfl)
theorem zs_240_72 : zrun zP sv C 240 72 [l0, l1, l2, l3] [.int x] h = some (.inl (some (.int x)), h) := zx_end rfl rfl
theorem zs_241_0 : zrun zP sv C 241 0 [.val (.ref a), l1, l2] st h = zrun zP sv C 241 1 [.val (.ref a), l1, l2] (.ref a :: st) h := zx_go rfl rfl
theorem zs_241_1 : zrun zP sv C 241 1 [l0, l1, l2] [.ref b] h = zrc (h.1 b) 13 (zbk (C 200 [.ref b] h) (fun v h' => zrun zP sv C 241 4 [l0, l1, l2] (v.toList ++ []) h') (fun E h' => some (.inr E, h'))) := zx_cv (x0 := 13) rfl rfl rfl rfl rfl ⟨Nat.le_of_ble_eq_true rfl, rfl⟩ (fun _ _ => rfl)
theorem zs_241_4 : zrun zP sv C 241 4 [.val (.ref a), l1, l2] st h = zrun zP sv C 241 5 [.val (.ref a), l1, l2] (.ref a :: st) h := zx_go rfl rfl
theorem zs_241_5 : zrun zP sv C 241 5 [.val (.ref a), l1, l2] st h = zrun zP sv C 241 6 [.val (.ref a), l1, l2] (.ref a :: st) h := zx_go rfl rfl
theorem zs_241_6 : zrun zP sv C 241 6 [l0, .val (.int x), l2] st h = zrun zP sv C 241 7 [l0, .val (.int x), l2] (.int x :: st) h := zx_go rfl rfl
theorem zs_241_7 : zrun zP sv C 241 7 [l0, l1, .val (.int x)] st h = zrun zP sv C 241 8 [l0, l1, .val (.int x)] (.int x :: st) h := zx_go rfl rfl
theorem zs_241_8 : zrun zP sv C 241 8 [l0, l1, l2] [v2, v1, .ref b, r0] h = zrc (h.1 b) 13 (zbk (C 240 [.ref b, v1, v2] h) (fun v h' => zrun zP sv C 241 11 [l0, l1, l2] (v.toList ++ [r0]) h') (fun E h' => some (.inr E, h'))) := zx_cv (x0 := 13) rfl rfl rfl rfl rfl ⟨Nat.le_of_ble_eq_true rfl, rfl⟩ (fun _ _ => rfl)
theorem zs_241_11 : zrun zP sv C 241 11 [l0, l1, l2] [v1, .ref b] h = zrc (h.1 b) 13 (zbk (C 202 [.ref b, v1] h) (fun v h' => zrun zP sv C 241 14 [l0, l1, l2] (v.toList ++ []) h') (fun E h' => some (.inr E, h'))) := zx_cv (x0 := 13) rfl rfl rfl rfl rfl ⟨Nat.le_of_ble_eq_true rfl, rfl⟩ (fun _ _ => rfl)
theorem zs_241_14 : zrun zP sv C 241 14 [l0, l1, l2] [.int x] h = some (.inl (some (.int x)), h) := zx_end rfl rfl
theorem zs_242_0 : zrun zP sv C 242 0 [l0, l1, l2, l3] st h = zrun zP sv C 242 1 [l0, l1, l2, l3] (.int 0 :: st) h := zx_go rfl rfl
theorem zs_242_1 (hs : znw l2 = true) : zrun zP sv C 242 1 [l0, l1, l2, l3] (.int x :: st) h = zrun zP sv C 242 2 [l0, l1, .val (.int x), l3] st h := zx_st hs rfl rfl rfl rfl rfl rfl
theorem zs_242_2 : zrun zP sv C 242 2 [l0, l1, l2, l3] st h = zrun zP sv C 242 3 [l0, l1, l2, l3] (.int 0 :: st) h := zx_go rfl rfl
theorem zs_242_3 (hs : znw l3 = true) : zrun zP sv C 242 3 [l0, l1, l2, l3] (.int x :: st) h = zrun zP sv C 242 4 [l0, l1, l2, .val (.int x)] st h := zx_st hs rfl rfl rfl rfl rfl rfl
theorem zs_242_4 : zrun zP sv C 242 4 [l0, l1, l2, .val (.int x)] st h = zrun zP sv C 242 5 [l0, l1, l2, .val (.int x)] (.int x :: st) h := zx_go rfl rfl
theorem zs_242_5 : zrun zP sv C 242 5 [.val (.ref a), l1, l2, l3] st h = zrun zP sv C 242 6 [.val (.ref a), l1, l2, l3] (.ref a :: st) h := zx_go rfl rfl
theorem zs_242_6 : zrun zP sv C 242 6 [l0, l1, l2, l3] (.ref a :: st) h = zfld (h.1 a) 13 8 (fun v => zrun zP sv C 242 9 [l0, l1, l2, l3] (v :: st) h) := zx_getf rfl rfl
theorem zs_242_9 : zrun zP sv C 242 9 [l0, l1, l2, l3] (.int y :: .int x :: st) h = if x < y then zrun zP sv C 242 12 [l0, l1, l2, l3] st h else zrun zP sv C 242 42 [l0, l1, l2, l3] st h := (zx_ic rfl rfl).trans zc3_if
theorem zs_242_12 : zrun zP sv C 242 12 [.val (.ref a), l1, l2, l3] st h = zrun zP sv C 242 13 [.val (.ref a), l1, l2, l3] (.ref a :: st) h := zx_go rfl rfl
theorem zs_242_13 : zrun zP sv C 242 13 [l0, l1, l2, l3] (.ref a :: st) h = zfld (h.1 a) 13 6 (fun v => zrun zP sv C 242 16 [l0, l1, l2, l3] (v :: st) h) := zx_getf rfl rfl
theorem zs_242_16 : zrun zP sv C 242 16 [l0, l1, l2, .val (.int x)] st h = zrun zP sv C 242 17 [l0, l1, l2, .val (.int x)] (.int x :: st) h := zx_go rfl rfl
theorem zs_242_17 : zrun zP sv C 242 17 [l0, l1, l2, l3] (.int x :: .ref a :: st) h = zael (h.1 a) 21 x (fun v => zrun zP sv C 242 18 [l0, l1, l2, l3] (v :: st) h) := zx_ald rfl rfl
theorem zs_242_18 : zrun zP sv C 242 18 [l0, l1, l2, l3] st h = zrun zP sv C 242 20 [l0, l1, l2, l3] (.int (nI 118) :: st) h := zx_go rfl rfl
theorem zs_242_20 : zrun zP sv C 242 20 [l0, l1, l2, l3] (.int y :: .int x :: st) h = if x = y then zrun zP sv C 242 23 [l0, l1, l2, l3] st h else zrun zP sv C 242 36 [l0, l1, l2, l3] st h := (zx_ic rfl rfl).trans zc1_if
theorem zs_242_23 : zrun zP sv C 242 23 [.val (.ref a), l1, l2, l3] st h = zrun zP sv C 242 24 [.val (.ref a), l1, l2, l3] (.ref a :: st) h := zx_go rfl rfl
theorem zs_242_24 : zrun zP sv C 242 24 [l0, l1, l2, l3] (.ref a :: st) h = zfld (h.1 a) 13 7 (fun v => zrun zP sv C 242 27 [l0, l1, l2, l3] (v :: st) h) := zx_getf rfl rfl
theorem zs_242_27 : zrun zP sv C 242 27 [l0, l1, l2, .val (.int x)] st h = zrun zP sv C 242 28 [l0, l1, l2, .val (.int x)] (.int x :: st) h := zx_go rfl rfl
theorem zs_242_28 : zrun zP sv C 242 28 [l0, l1, l2, l3] (.int x :: .ref a :: st) h = zael (h.1 a) 20 x (fun v => zrun zP sv C 242 29 [l0, l1, l2, l3] (v :: st) h) := zx_ald rfl rfl
theorem zs_242_29 : zrun zP sv C 242 29 [l0, .val (.int x), l2, l3] st h = zrun zP sv C 242 30 [l0, .val (.int x), l2, l3] (.int x :: st) h := zx_go rfl rfl
theorem zs_242_30 : zrun zP sv C 242 30 [l0, l1, l2, l3] (.int y :: .int x :: st) h = if x = y then zrun zP sv C 242 33 [l0, l1, l2, l3] st h else zrun zP sv C 242 36 [l0, l1, l2, l3] st h := (zx_ic rfl rfl).trans zc1_if
theorem zs_242_33 : zrun zP sv C 242 33 [l0, l1, .val (.int x), l3] st h = zrun zP sv C 242 36 [l0, l1, .val (.int (x + (nI 1))), l3] st h := zx_ii rfl rfl rfl rfl rfl
theorem zs_242_36 : zrun zP sv C 242 36 [l0, l1, l2, .val (.int x)] st h = zrun zP sv C 242 39 [l0, l1, l2, .val (.int (x + (nI 1)))] st h := zx_ii rfl rfl rfl rfl rfl
theorem zs_242_39 : zrun zP sv C 242 39 [l0, l1, l2, l3] st h = zrun zP sv C 242 4 [l0, l1, l2, l3] st h := zx_go rfl rfl
theorem zs_242_42 : zrun zP sv C 242 42 [l0, l1, .val (.int x), l3] st h = zrun zP sv C 242 43 [l0, l1, .val (.int x), l3] (.int x :: st) h := zx_go rfl rfl
theorem zs_242_43 : zrun zP sv C 242 43 [l0, l1, l2, l3] [.int x] h = some (.inl (some (.int x)), h) := zx_end rfl rfl
theorem zs_243_0 : zrun zP sv C 243 0 [.val (.ref a), l1, l2, l3, l4, l5, l6] st h = zrun zP sv C 243 1 [.val (.ref a), l1, l2, l3, l4, l5, l6] (.ref a :: st) h := zx_go rfl rfl
theorem zs_243_1 : zrun zP sv C 243 1 [l0, .val (.int x), l2, l3, l4, l5, l6] st h = zrun zP sv C 243 2 [l0, .val (.int x), l2, l3, l4, l5, l6] (.int x :: st) h := zx_go rfl rfl
theorem zs_243_2 : zrun zP sv C 243 2 [l0, l1, l2, l3, l4, l5, l6] [v1, .ref b] h = zrc (h.1 b) 13 (zbk (C 203 [.ref b, v1] h) (fun v h' => zrun zP sv C 243 5 [l0, l1, l2, l3, l4, l5, l6] (v.toList ++ []) h') (fun E h' => some (.inr E, h'))) := zx_cv (x0 := 13) rfl rfl rfl rfl rfl ⟨Nat.le_of_ble_eq_true rfl, rfl⟩ (fun _ _ => rfl)
theorem zs_243_5 : zrun zP sv C 243 5 [l0, l1, l2, l3, l4, l5, l6] (.int x :: st) h = if x = 0 then zrun zP sv C 243 16 [l0, l1, l2, l3, l4, l5, l6] st h else zrun zP sv C 243 8 [l0, l1, l2, l3, l4, l5, l6] st h := (zx_if rfl rfl).trans zc0_if
theorem zs_243_8 : zrun zP sv C 243 8 [.val (.ref a), l1, l2, l3, l4, l5, l6] st h = zrun zP sv C 243 9 [.val (.ref a), l1, l2, l3, l4, l5, l6] (.ref a :: st) h := zx_go rfl rfl
theorem zs_243_9 : zrun zP sv C 243 9 [l0, l1, l2, .val (.int x), l4, l5, l6] st h = zrun zP sv C 243 10 [l0, l1, l2, .val (.int x), l4, l5, l6] (.int x :: st) h := zx_go rfl rfl
theorem zs_243_10 : zrun zP sv C 243 10 [l0, l1, l2, l3, l4, l5, l6] [v1, .ref b] h = zrc (h.1 b) 13 (zbk (C 203 [.ref b, v1] h) (fun v h' => zrun zP sv C 243 13 [l0, l1, l2, l3, l4, l5, l6] (v.toList ++ []) h') (fun E h' => some (.inr E, h'))) := zx_cv (x0 := 13) rfl rfl rfl rfl rfl ⟨Nat.le_of_ble_eq_true rfl, rfl⟩ (fun _ _ => rfl)
theorem zs_243_13 : zrun zP sv C 243 13 [l0, l1, l2, l3, l4, l5, l6] (.int x :: st) h = if x = 0 then zrun zP sv C 243 16 [l0, l1, l2, l3, l4, l5, l6] st h else zrun zP sv C 243 18 [l0, l1, l2, l3, l4, l5, l6] st h := (zx_if rfl rfl).trans zc1_if
theorem zs_243_16 : zrun zP sv C 243 16 [l0, l1, l2, l3, l4, l5, l6] st h = zrun zP sv C 243 17 [l0, l1, l2, l3, l4, l5, l6] (.int (nI 1) :: st) h := zx_go rfl rfl
theorem zs_243_17 : zrun zP sv C 243 17 [l0, l1, l2, l3, l4, l5, l6] [.int x] h = some (.inl (some (.int x)), h) := zx_end rfl rfl
theorem zs_243_18 : zrun zP sv C 243 18 [l0, l1, .val (.int x), l3, l4, l5, l6] st h = zrun zP sv C 243 19 [l0, l1, .val (.int x), l3, l4, l5, l6] (.int x :: st) h := zx_go rfl rfl
theorem zs_243_19 : zrun zP sv C 243 19 [l0, l1, l2, l3, l4, l5, l6] [v0] h = zbk (C 204 [v0] h) (fun v h' => zrun zP sv C 243 22 [l0, l1, l2, l3, l4, l5, l6] (v.toList ++ []) h') (fun E h' => some (.inr E, h')) := zx_cs rfl rfl rfl rfl ⟨Nat.le_of_ble_eq_true rfl, rfl⟩ (fun _ _ => rfl)
theorem zs_243_22 : zrun zP sv C 243 22 [l0, l1, l2, l3, l4, l5, l6] (.int x :: st) h = if x = 0 then zrun zP sv C 243 25 [l0, l1, l2, l3, l4, l5, l6] st h else zrun zP sv C 243 27 [l0, l1, l2, l3, l4, l5, l6] st h := (zx_if rfl rfl).trans zc1_if
theorem zs_243_25 : zrun zP sv C 243 25 [l0, l1, l2, l3, l4, l5, l6] st h = zrun zP sv C 243 26 [l0, l1, l2, l3, l4, l5, l6] (.int (nI 2) :: st) h := zx_go rfl rfl
theorem zs_243_26 : zrun zP sv C 243 26 [l0, l1, l2, l3, l4, l5, l6] [.int x] h = some (.inl (some (.int x)), h) := zx_end rfl rfl
theorem zs_243_27 : zrun zP sv C 243 27 [.val (.ref a), l1, l2, l3, l4, l5, l6] st h = zrun zP sv C 243 28 [.val (.ref a), l1, l2, l3, l4, l5, l6] (.ref a :: st) h := zx_go rfl rfl
theorem zs_243_28 : zrun zP sv C 243 28 [l0, .val (.int x), l2, l3, l4, l5, l6] st h = zrun zP sv C 243 29 [l0, .val (.int x), l2, l3, l4, l5, l6] (.int x :: st) h := zx_go rfl rfl
theorem zs_243_29 : zrun zP sv C 243 29 [l0, l1, l2, l3, l4, l5, l6] [v1, .ref b] h = zrc (h.1 b) 13 (zbk (C 206 [.ref b, v1] h) (fun v h' => zrun zP sv C 243 32 [l0, l1, l2, l3, l4, l5, l6] (v.toList ++ []) h') (fun E h' => some (.inr E, h'))) := zx_cv (x0 := 13) rfl rfl rfl rfl rfl ⟨Nat.le_of_ble_eq_true rfl, rfl⟩ (fun _ _ => rfl)
theorem zs_243_32 : zrun zP sv C 243 32 [l0, l1, l2, l3, l4, l5, l6] st h = zrun zP sv C 243 34 [l0, l1, l2, l3, l4, l5, l6] (.int (nI 9) :: st) h := zx_go rfl rfl
theorem zs_243_34 : zrun zP sv C 243 34 [l0, l1, l2, l3, l4, l5, l6] st h = zrun zP sv C 243 36 [l0, l1, l2, l3, l4, l5, l6] (.int (nI 63) :: st) h := zx_go rfl rfl
theorem zs_243_36 : zrun zP sv C 243 36 [l0, l1, l2, .val (.int x), l4, l5, l6] st h = zrun zP sv C 243 37 [l0, l1, l2, .val (.int x), l4, l5, l6] (.int x :: st) h := zx_go rfl rfl
theorem zs_243_37 : zrun zP sv C 243 37 [l0, l1, l2, l3, l4, l5, l6] (.int y :: .int x :: st) h = zrun zP sv C 243 38 [l0, l1, l2, l3, l4, l5, l6] (.int (x * y) :: st) h := zx_go rfl rfl
theorem zs_243_38 : zrun zP sv C 243 38 [l0, l1, l2, l3, l4, l5, l6] (.int y :: .int x :: st) h = zrun zP sv C 243 39 [l0, l1, l2, l3, l4, l5, l6] (.int (x + y) :: st) h := zx_go rfl rfl
theorem zs_243_39 (hs : znw l4 = true) : zrun zP sv C 243 39 [l0, l1, l2, l3, l4, l5, l6] (.int x :: st) h = zrun zP sv C 243 41 [l0, l1, l2, l3, .val (.int x), l5, l6] st h := zx_st hs rfl rfl rfl rfl rfl rfl
theorem zs_243_41 : zrun zP sv C 243 41 [.val (.ref a), l1, l2, l3, l4, l5, l6] st h = zrun zP sv C 243 42 [.val (.ref a), l1, l2, l3, l4, l5, l6] (.ref a :: st) h := zx_go rfl rfl
theorem zs_243_42 : zrun zP sv C 243 42 [l0, l1, l2, l3, l4, l5, l6] (.ref a :: st) h = zfld (h.1 a) 13 8 (fun v => zrun zP sv C 243 45 [l0, l1, l2, l3, l4, l5, l6] (v :: st) h) := zx_getf rfl rfl
theorem zs_243_45 : zrun zP sv C 243 45 [.val (.ref a), l1, l2, l3, l4, l5, l6] st h = zrun zP sv C 243 46 [.val (.ref a), l1, l2, l3, l4, l5, l6] (.ref a :: st) h := zx_go rfl rfl
theorem zs_243_46 : zrun zP sv C 243 46 [l0, l1, .val (.int x), l3, l4, l5, l6] st h = zrun zP sv C 243 47 [l0, l1, .val (.int x), l3, l4, l5, l6] (.int x :: st) h := zx_go rfl rfl
theorem zs_243_47 : zrun zP sv C 243 47 [l0, l1, l2, l3, l4, l5, l6] st h = zrun zP sv C 243 49 [l0, l1, l2, l3, l4, l5, l6] (.int (nI 97) :: st) h := zx_go rfl rfl
theorem zs_243_49 : zrun zP sv C 243 49 [l0, l1, l2, l3, l4, l5, l6] (.int y :: .int x :: st) h = zrun zP sv C 243 50 [l0, l1, l2, l3, l4, l5, l6] (.int (x - y) :: st) h := zx_go rfl rfl
theorem zs_243_50 : zrun zP sv C 243 50 [l0, l1, l2, l3, l4, l5, l6] [v1, .ref b, r0] h = zrc (h.1 b) 13 (zbk (C 242 [.ref b, v1] h) (fun v h' => zrun zP sv C 243 53 [l0, l1, l2, l3, l4, l5, l6] (v.toList ++ [r0]) h') (fun E h' => some (.inr E, h'))) := zx_cv (x0 := 13) rfl rfl rfl rfl rfl ⟨Nat.le_of_ble_eq_true rfl, rfl⟩ (fun _ _ => rfl)
theorem zs_243_53 : zrun zP sv C 243 53 [.val (.ref a), l1, l2, l3, l4, l5, l6] st h = zrun zP sv C 243 54 [.val (.ref a), l1, l2, l3, l4, l5, l6] (.ref a :: st) h := zx_go rfl rfl
theorem zs_243_54 : zrun zP sv C 243 54 [l0, l1, l2, l3, l4, l5, l6] (.ref a :: st) h = zfld (h.1 a) 13 0 (fun v => zrun zP sv C 243 57 [l0, l1, l2, l3, l4, l5, l6] (v :: st) h) := zx_getf rfl rfl
theorem zs_243_57 : zrun zP sv C 243 57 [l0, l1, l2, l3, .val (.int x), l5, l6] st h = zrun zP sv C 243 59 [l0, l1, l2, l3, .val (.int x), l5, l6] (.int x :: st) h := zx_go rfl rfl
theorem zs_243_59 : zrun zP sv C 243 59 [l0, l1, l2, l3, l4, l5, l6] (.int x :: .ref a :: st) h = zael (h.1 a) 20 x (fun v => zrun zP sv C 243 60 [l0, l1, l2, l3, l4, l5, l6] (v :: st) h) := zx_ald rfl rfl
theorem zs_243_60 : zrun zP sv C 243 60 [l0, l1, l2, l3, l4, l5, l6] st h = zrun zP sv C 243 61 [l0, l1, l2, l3, l4, l5, l6] (.int (nI 1) :: st) h := zx_go rfl rfl
theorem zs_243_61 : zrun zP sv C 243 61 [l0, l1, l2, l3, l4, l5, l6] (.int y :: .int x :: st) h = zrun zP sv C 243 62 [l0, l1, l2, l3, l4, l5, l6] (.int (x - y) :: st) h := zx_go rfl rfl
theorem zs_243_62 : zrun zP sv C 243 62 [l0, l1, l2, l3, l4, l5, l6] (.int y :: .int x :: st) h = zrun zP sv C 243 63 [l0, l1, l2, l3, l4, l5, l6] (.int (x * y) :: st) h := zx_go rfl rfl
theorem zs_243_63 : zrun zP sv C 243 63 [l0, l1, l2, l3, l4, l5, l6] (.int y :: .int x :: st) h = zrun zP sv C 243 64 [l0, l1, l2, l3, l4, l5, l6] (.int (x + y) :: st) h := zx_go rfl rfl
theorem zs_243_64 : zrun zP sv C 243 64 [l0, l1, l2, l3, l4, l5, l6] st h = zrun zP sv C 243 66 [l0, l1, l2, l3, l4, l5, l6] (.int (nI 31) :: st) h := zx_go rfl rfl
theorem zs_243_66 : zrun zP sv C 243 66 [l0, l1, l2, l3, l4, l5, l6] (.int y :: .int x :: st) h = if y < x then zrun zP sv C 243 69 [l0, l1, l2, l3, l4, l5, l6] st h else zrun zP sv C 243 71 [l0, l1, l2, l3, l4, l5, l6] st h := (zx_ic rfl rfl).trans zc5_if
theorem zs_243_69 : zrun zP sv C 243 69 [l0, l1, l2, l3, l4, l5, l6] st h = zrun zP sv C 243 70 [l0, l1, l2, l3, l4, l5, l6] (.int (nI 3) :: st) h := zx_go rfl rfl
theorem zs_243_70 : zrun zP sv C 243 70 [l0, l1, l2, l3, l4, l5, l6] [.int x] h = some (.inl (some (.int x)), h) := zx_end rfl rfl
theorem zs_243_71 : zrun zP sv C 243 71 [.val (.ref a), l1, l2, l3, l4, l5, l6] st h = zrun zP sv C 243 72 [.val (.ref a), l1, l2, l3, l4, l5, l6] (.ref a :: st) h := zx_go rfl rfl
theorem zs_243_72 : zrun zP sv C 243 72 [l0, l1, l2, l3, l4, l5, l6] st h = zrun zP sv C 243 73 [l0, l1, l2, l3, l4, l5, l6] (.int 0 :: st) h := zx_go rfl rfl
theorem zs_243_73 : zrun zP sv C 243 73 [l0, l1, l2, l3, l4, l5, l6] (.int x :: .ref a :: st) h = zpfd (h.1 a) 13 11 0 (.int x) (fun c => zrun zP sv C 243 76 [l0, l1, l2, l3, l4, l5, l6] st (zup h a c)) := zx_putf (x0 := 0) rfl rfl
theorem zs_243_76 : zrun zP sv C 243 76 [l0, l1, l2, l3, l4, l5, l6] st h = zrun zP sv C 243 77 [l0, l1, l2, l3, l4, l5, l6] (.int 0 :: st) h := zx_go rfl rfl
theorem zs_243_77 (hs : znw l5 = true) : zrun zP sv C 243 77 [l0, l1, l2, l3, l4, l5, l6] (.int x :: st) h = zrun zP sv C 243 79 [l0, l1, l2, l3, l4, .val (.int x), l6] st h := zx_st hs rfl rfl rfl rfl rfl rfl
theorem zs_243_79 : zrun zP sv C 243 79 [l0, l1, l2, l3, l4, .val (.int x), l6] st h = zrun zP sv C 243 81 [l0, l1, l2, l3, l4, .val (.int x), l6] (.int x :: st) h := zx_go rfl rfl
theorem zs_243_81 : zrun zP sv C 243 81 [.val (.ref a), l1, l2, l3, l4, l5, l6] st h = zrun zP sv C 243 82 [.val (.ref a), l1, l2, l3, l4, l5, l6] (.ref a :: st) h := zx_go rfl rfl
theorem zs_243_82 : zrun zP sv C 243 82 [l0, l1, l2, l3, l4, l5, l6] (.ref a :: st) h = zfld (h.1 a) 13 8 (fun v => zrun zP sv C 243 85 [l0, l1, l2, l3, l4, l5, l6] (v :: st) h) := zx_getf rfl rfl
theorem zs_243_85 : zrun zP sv C 243 85 [l0, l1, l2, l3, l4, l5, l6] (.int y :: .int x :: st) h = if x < y then zrun zP sv C 243 88 [l0, l1, l2, l3, l4, l5, l6] st h else zrun zP sv C 243 195 [l0, l1, l2, l3, l4, l5, l6] st h := (zx_ic rfl rfl).trans zc3_if
theorem zs_243_88 : zrun zP sv C 243 88 [.val (.ref a), l1, l2, l3, l4, l5, l6] st h = zrun zP sv C 243 89 [.val (.ref a), l1, l2, l3, l4, l5, l6] (.ref a :: st) h := zx_go rfl rfl
theorem zs_243_89 : zrun zP sv C 243 89 [l0, l1, l2, l3, l4, l5, l6] (.ref a :: st) h = zfld (h.1 a) 13 6 (fun v => zrun zP sv C 243 92 [l0, l1, l2, l3, l4, l5, l6] (v :: st) h) := zx_getf rfl rfl
theorem zs_243_92 : zrun zP sv C 243 92 [l0, l1, l2, l3, l4, .val (.int x), l6] st h = zrun zP sv C 243 94 [l0, l1, l2, l3, l4, .val (.int x), l6] (.int x :: st) h := zx_go rfl rfl
theorem zs_243_94 : zrun zP sv C 243 94 [l0, l1, l2, l3, l4, l5, l6] (.int x :: .ref a :: st) h = zael (h.1 a) 21 x (fun v => zrun zP sv C 243 95 [l0, l1, l2, l3, l4, l5, l6] (v :: st) h) := zx_ald rfl rfl
theorem zs_243_95 : zrun zP sv C 243 95 [l0, l1, l2, l3, l4, l5, l6] st h = zrun zP sv C 243 97 [l0, l1, l2, l3, l4, l5, l6] (.int (nI 118) :: st) h := zx_go rfl rfl
theorem zs_243_97 : zrun zP sv C 243 97 [l0, l1, l2, l3, l4, l5, l6] (.int y :: .int x :: st) h = if x = y then zrun zP sv C 243 100 [l0, l1, l2, l3, l4, l5, l6] st h else zrun zP sv C 243 114 [l0, l1, l2, l3, l4, l5, l6] st h := (zx_ic rfl rfl).trans zc1_if
theorem zs_243_100 : zrun zP sv C 243 100 [.val (.ref a), l1, l2, l3, l4, l5, l6] st h = zrun zP sv C 243 101 [.val (.ref a), l1, l2, l3, l4, l5, l6] (.ref a :: st) h := zx_go rfl rfl
theorem zs_243_101 : zrun zP sv C 243 101 [l0, l1, l2, l3, l4, l5, l6] (.ref a :: st) h = zfld (h.1 a) 13 7 (fun v => zrun zP sv C 243 104 [l0, l1, l2, l3, l4, l5, l6] (v :: st) h) := zx_getf rfl rfl
theorem zs_243_104 : zrun zP sv C 243 104 [l0, l1, l2, l3, l4, .val (.int x), l6] st h = zrun zP sv C 243 106 [l0, l1, l2, l3, l4, .val (.int x), l6] (.int x :: st) h := zx_go rfl rfl
theorem zs_243_106 : zrun zP sv C 243 106 [l0, l1, l2, l3, l4, l5, l6] (.int x :: .ref a :: st) h = zael (h.1 a) 20 x (fun v => zrun zP sv C 243 107 [l0, l1, l2, l3, l4, l5, l6] (v :: st) h) := zx_ald rfl rfl
theorem zs_243_107 : zrun zP sv C 243 107 [l0, l1, .val (.int x), l3, l4, l5, l6] st h = zrun zP sv C 243 108 [l0, l1, .val (.int x), l3, l4, l5, l6] (.int x :: st) h := zx_go rfl rfl
theorem zs_243_108 : zrun zP sv C 243 108 [l0, l1, l2, l3, l4, l5, l6] st h = zrun zP sv C 243 110 [l0, l1, l2, l3, l4, l5, l6] (.int (nI 97) :: st) h := zx_go rfl rfl
theorem zs_243_110 : zrun zP sv C 243 110 [l0, l1, l2, l3, l4, l5, l6] (.int y :: .int x :: st) h = zrun zP sv C 243 111 [l0, l1, l2, l3, l4, l5, l6] (.int (x - y) :: st) h := zx_go rfl rfl
theorem zs_243_111 : zrun zP sv C 243 111 [l0, l1, l2, l3, l4, l5, l6] (.int y :: .int x :: st) h = if x = y then zrun zP sv C 243 135 [l0, l1, l2, l3, l4, l5, l6] st h else zrun zP sv C 243 114 [l0, l1, l2, l3, l4, l5, l6] st h := (zx_ic rfl rfl).trans zc0_if
theorem zs_243_114 : zrun zP sv C 243 114 [.val (.ref a), l1, l2, l3, l4, l5, l6] st h = zrun zP sv C 243 115 [.val (.ref a), l1, l2, l3, l4, l5, l6] (.ref a :: st) h := zx_go rfl rfl
theorem zs_243_115 : zrun zP sv C 243 115 [.val (.ref a), l1, l2, l3, l4, l5, l6] st h = zrun zP sv C 243 116 [.val (.ref a), l1, l2, l3, l4, l5, l6] (.ref a :: st) h := zx_go rfl rfl
theorem zs_243_116 : zrun zP sv C 243 116 [l0, l1, l2, l3, l4, l5, l6] (.ref a :: st) h = zfld (h.1 a) 13 6 (fun v => zrun zP sv C 243 119 [l0, l1, l2, l3, l4, l5, l6] (v :: st) h) := zx_getf rfl rfl
theorem zs_243_119 : zrun zP sv C 243 119 [l0, l1, l2, l3, l4, .val (.int x), l6] st h = zrun zP sv C 243 121 [l0, l1, l2, l3, l4, .val (.int x), l6] (.int x :: st) h := zx_go rfl rfl
theorem zs_243_121 : zrun zP sv C 243 121 [l0, l1, l2, l3, l4, l5, l6] (.int x :: .ref a :: st) h = zael (h.1 a) 21 x (fun v => zrun zP sv C 243 122 [l0, l1, l2, l3, l4, l5, l6] (v :: st) h) := zx_ald rfl rfl
theorem zs_243_122 : zrun zP sv C 243 122 [.val (.ref a), l1, l2, l3, l4, l5, l6] st h = zrun zP sv C 243 123 [.val (.ref a), l1, l2, l3, l4, l5, l6] (.ref a :: st) h := zx_go rfl rfl
theorem zs_243_123 : zrun zP sv C 243 123 [l0, l1, l2, l3, l4, l5, l6] (.ref a :: st) h = zfld (h.1 a) 13 7 (fun v => zrun zP sv C 243 126 [l0, l1, l2, l3, l4, l5, l6] (v :: st) h) := zx_getf rfl rfl
theorem zs_243_126 : zrun zP sv C 243 126 [l0, l1, l2, l3, l4, .val (.int x), l6] st h = zrun zP sv C 243 128 [l0, l1, l2, l3, l4, .val (.int x), l6] (.int x :: st) h := zx_go rfl rfl
theorem zs_243_128 : zrun zP sv C 243 128 [l0, l1, l2, l3, l4, l5, l6] (.int x :: .ref a :: st) h = zael (h.1 a) 20 x (fun v => zrun zP sv C 243 129 [l0, l1, l2, l3, l4, l5, l6] (v :: st) h) := zx_ald rfl rfl
theorem zs_243_129 : zrun zP sv C 243 129 [l0, l1, l2, l3, l4, l5, l6] [v2, v1, .ref b] h = zrc (h.1 b) 13 (zbk (C 216 [.ref b, v1, v2] h) (fun v h' => zrun zP sv C 243 132 [l0, l1, l2, l3, l4, l5, l6] (v.toList ++ []) h') (fun E h' => some (.inr E, h'))) := zx_cv (x0 := 13) rfl rfl rfl rfl rfl ⟨Nat.le_of_ble_eq_true rfl, rfl⟩ (fun _ _ => rfl)
theorem zs_243_132 : zrun zP sv C 243 132 [l0, l1, l2, l3, l4, l5, l6] st h = zrun zP sv C 243 189 [l0, l1, l2, l3, l4, l5, l6] st h := zx_go rfl rfl
theorem zs_243_135 : zrun zP sv C 243 135 [l0, l1, l2, l3, l4, l5, l6] st h = zrun zP sv C 243 136 [l0, l1, l2, l3, l4, l5, l6] (.int 0 :: st) h := zx_go rfl rfl
theorem zs_243_136 (hs : znw l6 = true) : zrun zP sv C 243 136 [l0, l1, l2, l3, l4, l5, l6] (.int x :: st) h = zrun zP sv C 243 138 [l0, l1, l2, l3, l4, l5, .val (.int x)] st h := zx_st hs rfl rfl rfl rfl rfl rfl
theorem zs_243_138 : zrun zP sv C 243 138 [l0, l1, l2, l3, l4, l5, .val (.int x)] st h = zrun zP sv C 243 140 [l0, l1, l2, l3, l4, l5, .val (.int x)] (.int x :: st) h := zx_go rfl rfl
theorem zs_243_140 : zrun zP sv C 243 140 [.val (.ref a), l1, l2, l3, l4, l5, l6] st h = zrun zP sv C 243 141 [.val (.ref a), l1, l2, l3, l4, l5, l6] (.ref a :: st) h := zx_go rfl rfl
theorem zs_243_141 : zrun zP sv C 243 141 [l0, l1, l2, l3, l4, l5, l6] (.ref a :: st) h = zfld (h.1 a) 13 0 (fun v => zrun zP sv C 243 144 [l0, l1, l2, l3, l4, l5, l6] (v :: st) h) := zx_getf rfl rfl
theorem zs_243_144 : zrun zP sv C 243 144 [l0, l1, l2, l3, .val (.int x), l5, l6] st h = zrun zP sv C 243 146 [l0, l1, l2, l3, .val (.int x), l5, l6] (.int x :: st) h := zx_go rfl rfl
theorem zs_243_146 : zrun zP sv C 243 146 [l0, l1, l2, l3, l4, l5, l6] (.int x :: .ref a :: st) h = zael (h.1 a) 20 x (fun v => zrun zP sv C 243 147 [l0, l1, l2, l3, l4, l5, l6] (v :: st) h) := zx_ald rfl rfl
theorem zs_243_147 : zrun zP sv C 243 147 [l0, l1, l2, l3, l4, l5, l6] (.int y :: .int x :: st) h = if x < y then zrun zP sv C 243 150 [l0, l1, l2, l3, l4, l5, l6] st h else zrun zP sv C 243 189 [l0, l1, l2, l3, l4, l5, l6] st h := (zx_ic rfl rfl).trans zc3_if
theorem zs_243_150 : zrun zP sv C 243 150 [.val (.ref a), l1, l2, l3, l4, l5, l6] st h = zrun zP sv C 243 151 [.val (.ref a), l1, l2, l3, l4, l5, l6] (.ref a :: st) h := zx_go rfl rfl
theorem zs_243_151 : zrun zP sv C 243 151 [.val (.ref a), l1, l2, l3, l4, l5, l6] st h = zrun zP sv C 243 152 [.val (.ref a), l1, l2, l3, l4, l5, l6] (.ref a :: st) h := zx_go rfl rfl
theorem zs_243_152 : zrun zP sv C 243 152 [l0, l1, l2, l3, l4, l5, l6] (.ref a :: st) h = zfld (h.1 a) 13 0 (fun v => zrun zP sv C 243 155 [l0, l1, l2, l3, l4, l5, l6] (v :: st) h) := zx_getf rfl rfl
theorem zs_243_155 : zrun zP sv C 243 155 [l0, l1, l2, l3, .val (.int x), l5, l6] st h = zrun zP sv C 243 157 [l0, l1, l2, l3, .val (.int x), l5, l6] (.int x :: st) h := zx_go rfl rfl
theorem zs_243_157 : zrun zP sv C 243 157 [l0, l1, l2, l3, l4, l5, l6] st h = zrun zP sv C 243 158 [l0, l1, l2, l3, l4, l5, l6] (.int (nI 1) :: st) h := zx_go rfl rfl
theorem zs_243_158 : zrun zP sv C 243 158 [l0, l1, l2, l3, l4, l5, l6] (.int y :: .int x :: st) h = zrun zP sv C 243 159 [l0, l1, l2, l3, l4, l5, l6] (.int (x + y) :: st) h := zx_go rfl rfl
theorem zs_243_159 : zrun zP sv C 243 159 [l0, l1, l2, l3, l4, l5, l6] st h = zrun zP sv C 243 160 [l0, l1, l2, l3, l4, l5, l6] (.int (nI 2) :: st) h := zx_go rfl rfl
theorem zs_243_160 : zrun zP sv C 243 160 [l0, l1, l2, l3, l4, l5, .val (.int x)] st h = zrun zP sv C 243 162 [l0, l1, l2, l3, l4, l5, .val (.int x)] (.int x :: st) h := zx_go rfl rfl
theorem zs_243_162 : zrun zP sv C 243 162 [l0, l1, l2, l3, l4, l5, l6] (.int y :: .int x :: st) h = zrun zP sv C 243 163 [l0, l1, l2, l3, l4, l5, l6] (.int (x * y) :: st) h := zx_go rfl rfl
theorem zs_243_163 : zrun zP sv C 243 163 [l0, l1, l2, l3, l4, l5, l6] (.int y :: .int x :: st) h = zrun zP sv C 243 164 [l0, l1, l2, l3, l4, l5, l6] (.int (x + y) :: st) h := zx_go rfl rfl
theorem zs_243_164 : zrun zP sv C 243 164 [l0, l1, l2, l3, l4, l5, l6] (.int x :: .ref a :: st) h = zael (h.1 a) 20 x (fun v => zrun zP sv C 243 165 [l0, l1, l2, l3, l4, l5, l6] (v :: st) h) := zx_ald rfl rfl
theorem zs_243_165 : zrun zP sv C 243 165 [l0, l1, l2, l3, l4, l5, l6] (.int x :: st) h = zrun zP sv C 243 166 [l0, l1, l2, l3, l4, l5, l6] (.int (x.toUInt32 % 65536).toInt32 :: st) h := zx_go rfl rfl
theorem zs_243_166 : zrun zP sv C 243 166 [.val (.ref a), l1, l2, l3, l4, l5, l6] st h = zrun zP sv C 243 167 [.val (.ref a), l1, l2, l3, l4, l5, l6] (.ref a :: st) h := zx_go rfl rfl
theorem zs_243_167 : zrun zP sv C 243 167 [l0, l1, l2, l3, l4, l5, l6] (.ref a :: st) h = zfld (h.1 a) 13 0 (fun v => zrun zP sv C 243 170 [l0, l1, l2, l3, l4, l5, l6] (v :: st) h) := zx_getf rfl rfl
theorem zs_243_170 : zrun zP sv C 243 170 [l0, l1, l2, l3, .val (.int x), l5, l6] st h = zrun zP sv C 243 172 [l0, l1, l2, l3, .val (.int x), l5, l6] (.int x :: st) h := zx_go rfl rfl
theorem zs_243_172 : zrun zP sv C 243 172 [l0, l1, l2, l3, l4, l5, l6] st h = zrun zP sv C 243 173 [l0, l1, l2, l3, l4, l5, l6] (.int (nI 2) :: st) h := zx_go rfl rfl
theorem zs_243_173 : zrun zP sv C 243 173 [l0, l1, l2, l3, l4, l5, l6] (.int y :: .int x :: st) h = zrun zP sv C 243 174 [l0, l1, l2, l3, l4, l5, l6] (.int (x + y) :: st) h := zx_go rfl rfl
theorem zs_243_174 : zrun zP sv C 243 174 [l0, l1, l2, l3, l4, l5, l6] st h = zrun zP sv C 243 175 [l0, l1, l2, l3, l4, l5, l6] (.int (nI 2) :: st) h := zx_go rfl rfl
theorem zs_243_175 : zrun zP sv C 243 175 [l0, l1, l2, l3, l4, l5, .val (.int x)] st h = zrun zP sv C 243 177 [l0, l1, l2, l3, l4, l5, .val (.int x)] (.int x :: st) h := zx_go rfl rfl
theorem zs_243_177 : zrun zP sv C 243 177 [l0, l1, l2, l3, l4, l5, l6] (.int y :: .int x :: st) h = zrun zP sv C 243 178 [l0, l1, l2, l3, l4, l5, l6] (.int (x * y) :: st) h := zx_go rfl rfl
theorem zs_243_178 : zrun zP sv C 243 178 [l0, l1, l2, l3, l4, l5, l6] (.int y :: .int x :: st) h = zrun zP sv C 243 179 [l0, l1, l2, l3, l4, l5, l6] (.int (x + y) :: st) h := zx_go rfl rfl
theorem zs_243_179 : zrun zP sv C 243 179 [l0, l1, l2, l3, l4, l5, l6] (.int x :: .ref a :: st) h = zael (h.1 a) 20 x (fun v => zrun zP sv C 243 180 [l0, l1, l2, l3, l4, l5, l6] (v :: st) h) := zx_ald rfl rfl
theorem zs_243_180 : zrun zP sv C 243 180 [l0, l1, l2, l3, l4, l5, l6] [v2, v1, .ref b] h = zrc (h.1 b) 13 (zbk (C 216 [.ref b, v1, v2] h) (fun v h' => zrun zP sv C 243 183 [l0, l1, l2, l3, l4, l5, l6] (v.toList ++ []) h') (fun E h' => some (.inr E, h'))) := zx_cv (x0 := 13) rfl rfl rfl rfl rfl ⟨Nat.le_of_ble_eq_true rfl, rfl⟩ (fun _ _ => rfl)
theorem zs_243_183 : zrun zP sv C 243 183 [l0, l1, l2, l3, l4, l5, .val (.int x)] st h = zrun zP sv C 243 186 [l0, l1, l2, l3, l4, l5, .val (.int (x + (nI 1)))] st h := zx_ii rfl rfl rfl rfl rfl
theorem zs_243_186 : zrun zP sv C 243 186 [l0, l1, l2, l3, l4, l5, l6] st h = zrun zP sv C 243 138 [l0, l1, l2, l3, l4, l5, l6] st h := zx_go rfl rfl
theorem zs_243_189 : zrun zP sv C 243 189 [l0, l1, l2, l3, l4, .val (.int x), l6] st h = zrun zP sv C 243 192 [l0, l1, l2, l3, l4, .val (.int (x + (nI 1))), l6] st h := zx_ii rfl rfl rfl rfl rfl
theorem zs_243_192 : zrun zP sv C 243 192 [l0, l1, l2, l3, l4, l5, l6] st h = zrun zP sv C 243 79 [l0, l1, l2, l3, l4, l5, l6] st h := zx_go rfl rfl
theorem zs_243_195 : zrun zP sv C 243 195 [.val (.ref a), l1, l2, l3, l4, l5, l6] st h = zrun zP sv C 243 196 [.val (.ref a), l1, l2, l3, l4, l5, l6] (.ref a :: st) h := zx_go rfl rfl
theorem zs_243_196 : zrun zP sv C 243 196 [l0, l1, l2, l3, l4, l5, l6] [.ref b] h = zrc (h.1 b) 13 (zbk (C 207 [.ref b] h) (fun v h' => zrun zP sv C 243 199 [l0, l1, l2, l3, l4, l5, l6] (v.toList ++ []) h') (fun E h' => some (.inr E, h'))) := zx_cv (x0 := 13) rfl rfl rfl rfl rfl ⟨Nat.le_of_ble_eq_true rfl, rfl⟩ (fun _ _ => rfl)
theorem zs_243_199 : zrun zP sv C 243 199 [.val (.ref a), l1, l2, l3, l4, l5, l6] st h = zrun zP sv C 243 200 [.val (.ref a), l1, l2, l3, l4, l5, l6] (.ref a :: st) h := zx_go rfl rfl
theorem zs_243_200 : zrun zP sv C 243 200 [l0, l1, l2, l3, l4, l5, l6] [.ref b] h = zrc (h.1 b) 13 (zbk (C 215 [.ref b] h) (fun v h' => zrun zP sv C 243 203 [l0, l1, l2, l3, l4, l5, l6] (v.toList ++ []) h') (fun E h' => some (.inr E, h'))) := zx_cv (x0 := 13) rfl rfl rfl rfl rfl ⟨Nat.le_of_ble_eq_true rfl, rfl⟩ (fun _ _ => rfl)
theorem zs_243_203 : zrun zP sv C 243 203 [l0, l1, l2, l3, l4, l5, l6] (.int x :: st) h = if x = 0 then zrun zP sv C 243 206 [l0, l1, l2, l3, l4, l5, l6] st h else zrun zP sv C 243 208 [l0, l1, l2, l3, l4, l5, l6] st h := (zx_if rfl rfl).trans zc1_if
theorem zs_243_206 : zrun zP sv C 243 206 [l0, l1, l2, l3, l4, l5, l6] st h = zrun zP sv C 243 207 [l0, l1, l2, l3, l4, l5, l6] (.int (nI 3) :: st) h := zx_go rfl rfl
theorem zs_243_207 : zrun zP sv C 243 207 [l0, l1, l2, l3, l4, l5, l6] [.int x] h = some (.inl (some (.int x)), h) := zx_end rfl rfl
theorem zs_243_208 : zrun zP sv C 243 208 [.val (.ref a), l1, l2, l3, l4, l5, l6] st h = zrun zP sv C 243 209 [.val (.ref a), l1, l2, l3, l4, l5, l6] (.ref a :: st) h := zx_go rfl rfl
theorem zs_243_209 : zrun zP sv C 243 209 [l0, .val (.int x), l2, l3, l4, l5, l6] st h = zrun zP sv C 243 210 [l0, .val (.int x), l2, l3, l4, l5, l6] (.int x :: st) h := zx_go rfl rfl
theorem zs_243_210 : zrun zP sv C 243 210 [l0, l1, l2, l3, l4, l5, l6] [v1, .ref b] h = zrc (h.1 b) 13 (zbk (C 208 [.ref b, v1] h) (fun v h' => zrun zP sv C 243 213 [l0, l1, l2, l3, l4, l5, l6] (v.toList ++ []) h') (fun E h' => some (.inr E, h'))) := zx_cv (x0 := 13) rfl rfl rfl rfl rfl ⟨Nat.le_of_ble_eq_true rfl, rfl⟩ (fun _ _ => rfl)
theorem zs_243_213 : zrun zP sv C 243 213 [.val (.ref a), l1, l2, l3, l4, l5, l6] st h = zrun zP sv C 243 214 [.val (.ref a), l1, l2, l3, l4, l5, l6] (.ref a :: st) h := zx_go rfl rfl
theorem zs_243_214 : zrun zP sv C 243 214 [.val (.ref a), l1, l2, l3, l4, l5, l6] st h = zrun zP sv C 243 215 [.val (.ref a), l1, l2, l3, l4, l5, l6] (.ref a :: st) h := zx_go rfl rfl
theorem zs_243_215 : zrun zP sv C 243 215 [l0, l1, l2, l3, l4, l5, l6] (.ref a :: st) h = zfld (h.1 a) 13 8 (fun v => zrun zP sv C 243 218 [l0, l1, l2, l3, l4, l5, l6] (v :: st) h) := zx_getf rfl rfl
theorem zs_243_218 : zrun zP sv C 243 218 [l0, l1, l2, l3, l4, l5, l6] [v1, .ref b] h = zrc (h.1 b) 13 (zbk (C 201 [.ref b, v1] h) (fun v h' => zrun zP sv C 243 221 [l0, l1, l2, l3, l4, l5, l6] (v.toList ++ []) h') (fun E h' => some (.inr E, h'))) := zx_cv (x0 := 13) rfl rfl rfl rfl rfl ⟨Nat.le_of_ble_eq_true rfl, rfl⟩ (fun _ _ => rfl)
theorem zs_243_221 : zrun zP sv C 243 221 [l0, l1, l2, l3, l4, l5, l6] [.int x] h = some (.inl (some (.int x)), h) := zx_end rfl rfl
theorem zs_244_0 : zrun zP sv C 244 0 [.val (.ref a), l1, l2, l3] st h = zrun zP sv C 244 1 [.val (.ref a), l1, l2, l3] (.ref a :: st) h := zx_go rfl rfl
theorem zs_244_1 : zrun zP sv C 244 1 [l0, l1, l2, l3] [.ref b] h = zrc (h.1 b) 13 (zbk (C 200 [.ref b] h) (fun v h' => zrun zP sv C 244 4 [l0, l1, l2, l3] (v.toList ++ []) h') (fun E h' => some (.inr E, h'))) := zx_cv (x0 := 13) rfl rfl rfl rfl rfl ⟨Nat.le_of_ble_eq_true rfl, rfl⟩ (fun _ _ => rfl)
theorem zs_244_4 : zrun zP sv C 244 4 [.val (.ref a), l1, l2, l3] st h = zrun zP sv C 244 5 [.val (.ref a), l1, l2, l3] (.ref a :: st) h := zx_go rfl rfl
theorem zs_244_5 : zrun zP sv C 244 5 [.val (.ref a), l1, l2, l3] st h = zrun zP sv C 244 6 [.val (.ref a), l1, l2, l3] (.ref a :: st) h := zx_go rfl rfl
theorem zs_244_6 : zrun zP sv C 244 6 [l0, .val (.int x), l2, l3] st h = zrun zP sv C 244 7 [l0, .val (.int x), l2, l3] (.int x :: st) h := zx_go rfl rfl
theorem zs_244_7 : zrun zP sv C 244 7 [l0, l1, .val (.int x), l3] st h = zrun zP sv C 244 8 [l0, l1, .val (.int x), l3] (.int x :: st) h := zx_go rfl rfl
theorem zs_244_8 : zrun zP sv C 244 8 [l0, l1, l2, .val (.int x)] st h = zrun zP sv C 244 9 [l0, l1, l2, .val (.int x)] (.int x :: st) h := zx_go rfl rfl
theorem zs_244_9 : zrun zP sv C 244 9 [l0, l1, l2, l3] [v3, v2, v1, .ref b, r0] h = zrc (h.1 b) 13 (zbk (C 243 [.ref b, v1, v2, v3] h) (fun v h' => zrun zP sv C 244 12 [l0, l1, l2, l3] (v.toList ++ [r0]) h') (fun E h' => some (.inr E, h'))) := zx_cv (x0 := 13) rfl rfl rfl rfl rfl ⟨Nat.le_of_ble_eq_true rfl, rfl⟩ (fun _ _ => rfl)
theorem zs_244_12 : zrun zP sv C 244 12 [l0, l1, l2, l3] [v1, .ref b] h = zrc (h.1 b) 13 (zbk (C 202 [.ref b, v1] h) (fun v h' => zrun zP sv C 244 15 [l0, l1, l2, l3] (v.toList ++ []) h') (fun E h' => some (.inr E, h'))) := zx_cv (x0 := 13) rfl rfl rfl rfl rfl ⟨Nat.le_of_ble_eq_true rfl, rfl⟩ (fun _ _ => rfl)
theorem zs_244_15 : zrun zP sv C 244 15 [l0, l1, l2, l3] [.int x] h = some (.inl (some (.int x)), h) := zx_end rfl rfl
theorem zs_245_0 : zrun zP sv C 245 0 [l0, .val (.int x), l2, l3] st h = zrun zP sv C 245 1 [l0, .val (.int x), l2, l3] (.int x :: st) h := zx_go rfl rfl
theorem zs_245_1 : zrun zP sv C 245 1 [l0, l1, l2, l3] [v0] h = zbk (C 204 [v0] h) (fun v h' => zrun zP sv C 245 4 [l0, l1, l2, l3] (v.toList ++ []) h') (fun E h' => some (.inr E, h')) := zx_cs rfl rfl rfl rfl ⟨Nat.le_of_ble_eq_true rfl, rfl⟩ (fun _ _ => rfl)
theorem zs_245_4 : zrun zP sv C 245 4 [l0, l1, l2, l3] (.int x :: st) h = if x = 0 then zrun zP sv C 245 20 [l0, l1, l2, l3] st h else zrun zP sv C 245 7 [l0, l1, l2, l3] st h := (zx_if rfl rfl).trans zc0_if
theorem zs_245_7 : zrun zP sv C 245 7 [l0, l1, .val (.int x), l3] st h = zrun zP sv C 245 8 [l0, l1, .val (.int x), l3] (.int x :: st) h := zx_go rfl rfl
theorem zs_245_8 : zrun zP sv C 245 8 [l0, l1, l2, l3] st h = zrun zP sv C 245 11 [l0, l1, l2, l3] (.int (-999) :: st) h := zx_go rfl rfl
theorem zs_245_11 : zrun zP sv C 245 11 [l0, l1, l2, l3] st h = zrun zP sv C 245 14 [l0, l1, l2, l3] (.int (nI 999) :: st) h := zx_go rfl rfl
theorem zs_245_14 : zrun zP sv C 245 14 [l0, l1, l2, l3] [v2, v1, v0] h = zbk (C 199 [v0, v1, v2] h) (fun v h' => zrun zP sv C 245 17 [l0, l1, l2, l3] (v.toList ++ []) h') (fun E h' => some (.inr E, h')) := zx_cs rfl rfl rfl rfl ⟨Nat.le_of_ble_eq_true rfl, rfl⟩ (fun _ _ => rfl)
theorem zs_245_17 : zrun zP sv C 245 17 [l0, l1, l2, l3] (.int x :: st) h = if x = 0 then zrun zP sv C 245 20 [l0, l1, l2, l3] st h else zrun zP sv C 245 22 [l0, l1, l2, l3] st h := (zx_if rfl rfl).trans zc1_if
theorem zs_245_20 : zrun zP sv C 245 20 [l0, l1, l2, l3] st h = zrun zP sv C 245 21 [l0, l1, l2, l3] (.int (nI 1) :: st) h := zx_go rfl rfl
theorem zs_245_21 : zrun zP sv C 245 21 [l0, l1, l2, l3] [.int x] h = some (.inl (some (.int x)), h) := zx_end rfl rfl
theorem zs_245_22 : zrun zP sv C 245 22 [.val (.ref a), l1, l2, l3] st h = zrun zP sv C 245 23 [.val (.ref a), l1, l2, l3] (.ref a :: st) h := zx_go rfl rfl
theorem zs_245_23 : zrun zP sv C 245 23 [l0, l1, l2, l3] (.ref a :: st) h = zfld (h.1 a) 13 0 (fun v => zrun zP sv C 245 26 [l0, l1, l2, l3] (v :: st) h) := zx_getf rfl rfl
theorem zs_245_26 : zrun zP sv C 245 26 [l0, l1, l2, l3] st h = zrun zP sv C 245 27 [l0, l1, l2, l3] (.int (nI 3) :: st) h := zx_go rfl rfl
theorem zs_245_27 : zrun zP sv C 245 27 [l0, .val (.int x), l2, l3] st h = zrun zP sv C 245 28 [l0, .val (.int x), l2, l3] (.int x :: st) h := zx_go rfl rfl
theorem zs_245_28 : zrun zP sv C 245 28 [l0, l1, l2, l3] (.int y :: .int x :: st) h = zrun zP sv C 245 29 [l0, l1, l2, l3] (.int (x + y) :: st) h := zx_go rfl rfl
theorem zs_245_29 : zrun zP sv C 245 29 [l0, l1, l2, l3] st h = zrun zP sv C 245 31 [l0, l1, l2, l3] (.int (nI 97) :: st) h := zx_go rfl rfl
theorem zs_245_31 : zrun zP sv C 245 31 [l0, l1, l2, l3] (.int y :: .int x :: st) h = zrun zP sv C 245 32 [l0, l1, l2, l3] (.int (x - y) :: st) h := zx_go rfl rfl
theorem zs_245_32 : zrun zP sv C 245 32 [l0, l1, l2, l3] (.int x :: .ref a :: st) h = zael (h.1 a) 20 x (fun v => zrun zP sv C 245 33 [l0, l1, l2, l3] (v :: st) h) := zx_ald rfl rfl
theorem zs_245_33 (hs : znw l3 = true) : zrun zP sv C 245 33 [l0, l1, l2, l3] (.int x :: st) h = zrun zP sv C 245 34 [l0, l1, l2, .val (.int x)] st h := zx_st hs rfl rfl rfl rfl rfl rfl
theorem zs_245_34 : zrun zP sv C 245 34 [.val (.ref a), l1, l2, l3] st h = zrun zP sv C 245 35 [.val (.ref a), l1, l2, l3] (.ref a :: st) h := zx_go rfl rfl
theorem zs_245_35 : zrun zP sv C 245 35 [l0, l1, l2, l3] (.ref a :: st) h = zfld (h.1 a) 13 0 (fun v => zrun zP sv C 245 38 [l0, l1, l2, l3] (v :: st) h) := zx_getf rfl rfl
theorem zs_245_38 : zrun zP sv C 245 38 [l0, l1, l2, l3] st h = zrun zP sv C 245 39 [l0, l1, l2, l3] (.int (nI 3) :: st) h := zx_go rfl rfl
theorem zs_245_39 : zrun zP sv C 245 39 [l0, .val (.int x), l2, l3] st h = zrun zP sv C 245 40 [l0, .val (.int x), l2, l3] (.int x :: st) h := zx_go rfl rfl
theorem zs_245_40 : zrun zP sv C 245 40 [l0, l1, l2, l3] (.int y :: .int x :: st) h = zrun zP sv C 245 41 [l0, l1, l2, l3] (.int (x + y) :: st) h := zx_go rfl rfl
theorem zs_245_41 : zrun zP sv C 245 41 [l0, l1, l2, l3] st h = zrun zP sv C 245 43 [l0, l1, l2, l3] (.int (nI 97) :: st) h := zx_go rfl rfl
theorem zs_245_43 : zrun zP sv C 245 43 [l0, l1, l2, l3] (.int y :: .int x :: st) h = zrun zP sv C 245 44 [l0, l1, l2, l3] (.int (x - y) :: st) h := zx_go rfl rfl
theorem zs_245_44 : zrun zP sv C 245 44 [l0, l1, .val (.int x), l3] st h = zrun zP sv C 245 45 [l0, l1, .val (.int x), l3] (.int x :: st) h := zx_go rfl rfl
theorem zs_245_45 : zrun zP sv C 245 45 [l0, l1, l2, l3] (.int y :: .int x :: .ref a :: st) h = zaset (h.1 a) 20 x (.int y) (fun c => zrun zP sv C 245 46 [l0, l1, l2, l3] st (zup h a c)) := zx_ast rfl rfl
theorem zs_245_46 : zrun zP sv C 245 46 [.val (.ref a), l1, l2, l3] st h = zrun zP sv C 245 47 [.val (.ref a), l1, l2, l3] (.ref a :: st) h := zx_go rfl rfl
theorem zs_245_47 : zrun zP sv C 245 47 [l0, l1, l2, .val (.int x)] st h = zrun zP sv C 245 48 [l0, l1, l2, .val (.int x)] (.int x :: st) h := zx_go rfl rfl
theorem zs_245_48 : zrun zP sv C 245 48 [l0, l1, l2, l3] [v1, .ref b] h = zrc (h.1 b) 13 (zbk (C 201 [.ref b, v1] h) (fun v h' => zrun zP sv C 245 51 [l0, l1, l2, l3] (v.toList ++ []) h') (fun E h' => some (.inr E, h'))) := zx_cv (x0 := 13) rfl rfl rfl rfl rfl ⟨Nat.le_of_ble_eq_true rfl, rfl⟩ (fun _ _ => rfl)
theorem zs_245_51 : zrun zP sv C 245 51 [l0, l1, l2, l3] [.int x] h = some (.inl (some (.int x)), h) := zx_end rfl rfl
theorem zs_246_0 : zrun zP sv C 246 0 [.val (.ref a), l1, l2] st h = zrun zP sv C 246 1 [.val (.ref a), l1, l2] (.ref a :: st) h := zx_go rfl rfl
theorem zs_246_1 : zrun zP sv C 246 1 [l0, l1, l2] [.ref b] h = zrc (h.1 b) 13 (zbk (C 200 [.ref b] h) (fun v h' => zrun zP sv C 246 4 [l0, l1, l2] (v.toList ++ []) h') (fun E h' => some (.inr E, h'))) := zx_cv (x0 := 13) rfl rfl rfl rfl rfl ⟨Nat.le_of_ble_eq_true rfl, rfl⟩ (fun _ _ => rfl)
theorem zs_246_4 : zrun zP sv C 246 4 [.val (.ref a), l1, l2] st h = zrun zP sv C 246 5 [.val (.ref a), l1, l2] (.ref a :: st) h := zx_go rfl rfl
theorem zs_246_5 : zrun zP sv C 246 5 [.val (.ref a), l1, l2] st h = zrun zP sv C 246 6 [.val (.ref a), l1, l2] (.ref a :: st) h := zx_go rfl rfl
theorem zs_246_6 : zrun zP sv C 246 6 [l0, .val (.int x), l2] st h = zrun zP sv C 246 7 [l0, .val (.int x), l2] (.int x :: st) h := zx_go rfl rfl
theorem zs_246_7 : zrun zP sv C 246 7 [l0, l1, .val (.int x)] st h = zrun zP sv C 246 8 [l0, l1, .val (.int x)] (.int x :: st) h := zx_go rfl rfl
theorem zs_246_8 : zrun zP sv C 246 8 [l0, l1, l2] [v2, v1, .ref b, r0] h = zrc (h.1 b) 13 (zbk (C 245 [.ref b, v1, v2] h) (fun v h' => zrun zP sv C 246 11 [l0, l1, l2] (v.toList ++ [r0]) h') (fun E h' => some (.inr E, h'))) := zx_cv (x0 := 13) rfl rfl rfl rfl rfl ⟨Nat.le_of_ble_eq_true rfl, rfl⟩ (fun _ _ => rfl)
theorem zs_246_11 : zrun zP sv C 246 11 [l0, l1, l2] [v1, .ref b] h = zrc (h.1 b) 13 (zbk (C 202 [.ref b, v1] h) (fun v h' => zrun zP sv C 246 14 [l0, l1, l2] (v.toList ++ []) h') (fun E h' => some (.inr E, h'))) := zx_cv (x0 := 13) rfl rfl rfl rfl rfl ⟨Nat.le_of_ble_eq_true rfl, rfl⟩ (fun _ _ => rfl)
theorem zs_246_14 : zrun zP sv C 246 14 [l0, l1, l2] [.int x] h = some (.inl (some (.int x)), h) := zx_end rfl rfl
theorem zs_247_0 : zrun zP sv C 247 0 [l0, .val (.int x), l2] st h = zrun zP sv C 247 1 [l0, .val (.int x), l2] (.int x :: st) h := zx_go rfl rfl
theorem zs_247_1 : zrun zP sv C 247 1 [l0, l1, l2] st h = zrun zP sv C 247 2 [l0, l1, l2] (.int (nI 1) :: st) h := zx_go rfl rfl
theorem zs_247_2 : zrun zP sv C 247 2 [l0, l1, l2] st h = zrun zP sv C 247 3 [l0, l1, l2] (.int (nI 4) :: st) h := zx_go rfl rfl
theorem zs_247_3 : zrun zP sv C 247 3 [l0, l1, l2] [v2, v1, v0] h = zbk (C 199 [v0, v1, v2] h) (fun v h' => zrun zP sv C 247 6 [l0, l1, l2] (v.toList ++ []) h') (fun E h' => some (.inr E, h')) := zx_cs rfl rfl rfl rfl ⟨Nat.le_of_ble_eq_true rfl, rfl⟩ (fun _ _ => rfl)
theorem zs_247_6 : zrun zP sv C 247 6 [l0, l1, l2] (.int x :: st) h = if x = 0 then zrun zP sv C 247 9 [l0, l1, l2] st h else zrun zP sv C 247 11 [l0, l1, l2] st h := (zx_if rfl rfl).trans zc1_if
theorem zs_247_9 : zrun zP sv C 247 9 [l0, l1, l2] st h = zrun zP sv C 247 10 [l0, l1, l2] (.int (nI 1) :: st) h := zx_go rfl rfl
theorem zs_247_10 : zrun zP sv C 247 10 [l0, l1, l2] [.int x] h = some (.inl (some (.int x)), h) := zx_end rfl rfl
theorem zs_247_11 : zrun zP sv C 247 11 [.val (.ref a), l1, l2] st h = zrun zP sv C 247 12 [.val (.ref a), l1, l2] (.ref a :: st) h := zx_go rfl rfl
theorem zs_247_12 : zrun zP sv C 247 12 [l0, l1, l2] (.ref a :: st) h = zfld (h.1 a) 13 0 (fun v => zrun zP sv C 247 15 [l0, l1, l2] (v :: st) h) := zx_getf rfl rfl
theorem zs_247_15 : zrun zP sv C 247 15 [l0, l1, l2] st h = zrun zP sv C 247 16 [l0, l1, l2] (.int (nI 1) :: st) h := zx_go rfl rfl
theorem zs_247_16 : zrun zP sv C 247 16 [l0, l1, l2] (.int x :: .ref a :: st) h = zael (h.1 a) 20 x (fun v => zrun zP sv C 247 17 [l0, l1, l2] (v :: st) h) := zx_ald rfl rfl
theorem zs_247_17 (hs : znw l2 = true) : zrun zP sv C 247 17 [l0, l1, l2] (.int x :: st) h = zrun zP sv C 247 18 [l0, l1, .val (.int x)] st h := zx_st hs rfl rfl rfl rfl rfl rfl
theorem zs_247_18 : zrun zP sv C 247 18 [.val (.ref a), l1, l2] st h = zrun zP sv C 247 19 [.val (.ref a), l1, l2] (.ref a :: st) h := zx_go rfl rfl
theorem zs_247_19 : zrun zP sv C 247 19 [l0, l1, l2] (.ref a :: st) h = zfld (h.1 a) 13 0 (fun v => zrun zP sv C 247 22 [l0, l1, l2] (v :: st) h) := zx_getf rfl rfl
theorem zs_247_22 : zrun zP sv C 247 22 [l0, l1, l2] st h = zrun zP sv C 247 23 [l0, l1, l2] (.int (nI 1) :: st) h := zx_go rfl rfl
theorem zs_247_23 : zrun zP sv C 247 23 [l0, .val (.int x), l2] st h = zrun zP sv C 247 24 [l0, .val (.int x), l2] (.int x :: st) h := zx_go rfl rfl
theorem zs_247_24 : zrun zP sv C 247 24 [l0, l1, l2] (.int y :: .int x :: .ref a :: st) h = zaset (h.1 a) 20 x (.int y) (fun c => zrun zP sv C 247 25 [l0, l1, l2] st (zup h a c)) := zx_ast rfl rfl
theorem zs_247_25 : zrun zP sv C 247 25 [.val (.ref a), l1, l2] st h = zrun zP sv C 247 26 [.val (.ref a), l1, l2] (.ref a :: st) h := zx_go rfl rfl
theorem zs_247_26 : zrun zP sv C 247 26 [l0, l1, .val (.int x)] st h = zrun zP sv C 247 27 [l0, l1, .val (.int x)] (.int x :: st) h := zx_go rfl rfl
theorem zs_247_27 : zrun zP sv C 247 27 [l0, l1, l2] [v1, .ref b] h = zrc (h.1 b) 13 (zbk (C 201 [.ref b, v1] h) (fun v h' => zrun zP sv C 247 30 [l0, l1, l2] (v.toList ++ []) h') (fun E h' => some (.inr E, h'))) := zx_cv (x0 := 13) rfl rfl rfl rfl rfl ⟨Nat.le_of_ble_eq_true rfl, rfl⟩ (fun _ _ => rfl)
theorem zs_247_30 : zrun zP sv C 247 30 [l0, l1, l2] [.int x] h = some (.inl (some (.int x)), h) := zx_end rfl rfl
theorem zs_248_0 : zrun zP sv C 248 0 [.val (.ref a), l1] st h = zrun zP sv C 248 1 [.val (.ref a), l1] (.ref a :: st) h := zx_go rfl rfl
theorem zs_248_1 : zrun zP sv C 248 1 [l0, l1] [.ref b] h = zrc (h.1 b) 13 (zbk (C 200 [.ref b] h) (fun v h' => zrun zP sv C 248 4 [l0, l1] (v.toList ++ []) h') (fun E h' => some (.inr E, h'))) := zx_cv (x0 := 13) rfl rfl rfl rfl rfl ⟨Nat.le_of_ble_eq_true rfl, rfl⟩ (fun _ _ => rfl)
theorem zs_248_4 : zrun zP sv C 248 4 [.val (.ref a), l1] st h = zrun zP sv C 248 5 [.val (.ref a), l1] (.ref a :: st) h := zx_go rfl rfl
theorem zs_248_5 : zrun zP sv C 248 5 [.val (.ref a), l1] st h = zrun zP sv C 248 6 [.val (.ref a), l1] (.ref a :: st) h := zx_go rfl rfl
theorem zs_248_6 : zrun zP sv C 248 6 [l0, .val (.int x)] st h = zrun zP sv C 248 7 [l0, .val (.int x)] (.int x :: st) h := zx_go rfl rfl
theorem zs_248_7 : zrun zP sv C 248 7 [l0, l1] [v1, .ref b, r0] h = zrc (h.1 b) 13 (zbk (C 247 [.ref b, v1] h) (fun v h' => zrun zP sv C 248 10 [l0, l1] (v.toList ++ [r0]) h') (fun E h' => some (.inr E, h'))) := zx_cv (x0 := 13) rfl rfl rfl rfl rfl ⟨Nat.le_of_ble_eq_true rfl, rfl⟩ (fun _ _ => rfl)
theorem zs_248_10 : zrun zP sv C 248 10 [l0, l1] [v1, .ref b] h = zrc (h.1 b) 13 (zbk (C 202 [.ref b, v1] h) (fun v h' => zrun zP sv C 248 13 [l0, l1] (v.toList ++ []) h') (fun E h' => some (.inr E, h'))) := zx_cv (x0 := 13) rfl rfl rfl rfl rfl ⟨Nat.le_of_ble_eq_true rfl, rfl⟩ (fun _ _ => rfl)
theorem zs_248_13 : zrun zP sv C 248 13 [l0, l1] [.int x] h = some (.inl (some (.int x)), h) := zx_end rfl rfl
theorem zs_249_0 : zrun zP sv C 249 0 [.val (.ref a)] st h = zrun zP sv C 249 1 [.val (.ref a)] (.ref a :: st) h := zx_go rfl rfl
theorem zs_249_1 : zrun zP sv C 249 1 [l0] st h = zrun zP sv C 249 2 [l0] (.int 0 :: st) h := zx_go rfl rfl
theorem zs_249_2 : zrun zP sv C 249 2 [l0] (.int x :: .ref a :: st) h = zpfd (h.1 a) 13 31 0 (.int x) (fun c => zrun zP sv C 249 5 [l0] st (zup h a c)) := zx_putf (x0 := 0) rfl rfl
theorem zs_249_5 : zrun zP sv C 249 5 [.val (.ref a)] st h = zrun zP sv C 249 6 [.val (.ref a)] (.ref a :: st) h := zx_go rfl rfl
theorem zs_249_6 : zrun zP sv C 249 6 [l0] (.ref a :: st) h = zfld (h.1 a) 13 0 (fun v => zrun zP sv C 249 9 [l0] (v :: st) h) := zx_getf rfl rfl
theorem zs_249_9 : zrun zP sv C 249 9 [l0] st h = zrun zP sv C 249 10 [l0] (.int 0 :: st) h := zx_go rfl rfl
theorem zs_249_10 : zrun zP sv C 249 10 [l0] (.int x :: .ref a :: st) h = zael (h.1 a) 20 x (fun v => zrun zP sv C 249 11 [l0] (v :: st) h) := zx_ald rfl rfl
theorem zs_249_11 : zrun zP sv C 249 11 [l0] [.int x] h = some (.inl (some (.int x)), h) := zx_end rfl rfl
theorem zs_250_0 : zrun zP sv C 250 0 [.val (.ref a), l1] st h = zrun zP sv C 250 1 [.val (.ref a), l1] (.ref a :: st) h := zx_go rfl rfl
theorem zs_250_1 : zrun zP sv C 250 1 [l0, .val (.int x)] st h = zrun zP sv C 250 2 [l0, .val (.int x)] (.int x :: st) h := zx_go rfl rfl
theorem zs_250_2 : zrun zP sv C 250 2 [l0, l1] [v0, r0] h = zbk (C 204 [v0] h) (fun v h' => zrun zP sv C 250 5 [l0, l1] (v.toList ++ [r0]) h') (fun E h' => some (.inr E, h')) := zx_cs rfl rfl rfl rfl ⟨Nat.le_of_ble_eq_true rfl, rfl⟩ (fun _ _ => rfl)
theorem zs_250_5 : zrun zP sv C 250 5 [l0, l1] (.int x :: st) h = if x = 0 then zrun zP sv C 250 12 [l0, l1] st h else zrun zP sv C 250 8 [l0, l1] st h := (zx_if rfl rfl).trans zc0_if
theorem zs_250_8 : zrun zP sv C 250 8 [l0, l1] st h = zrun zP sv C 250 9 [l0, l1] (.int 0 :: st) h := zx_go rfl rfl
theorem zs_250_9 : zrun zP sv C 250 9 [l0, l1] st h = zrun zP sv C 250 13 [l0, l1] st h := zx_go rfl rfl
theorem zs_250_12 : zrun zP sv C 250 12 [l0, l1] st h = zrun zP sv C 250 13 [l0, l1] (.int (nI 1) :: st) h := zx_go rfl rfl
theorem zs_250_13 : zrun zP sv C 250 13 [l0, l1] (.int x :: .ref a :: st) h = zpfd (h.1 a) 13 31 0 (.int x) (fun c => zrun zP sv C 250 16 [l0, l1] st (zup h a c)) := zx_putf (x0 := 0) rfl rfl
theorem zs_250_16 : zrun zP sv C 250 16 [.val (.ref a), l1] st h = zrun zP sv C 250 17 [.val (.ref a), l1] (.ref a :: st) h := zx_go rfl rfl
theorem zs_250_17 : zrun zP sv C 250 17 [l0, l1] (.ref a :: st) h = zfld (h.1 a) 13 31 (fun v => zrun zP sv C 250 20 [l0, l1] (v :: st) h) := zx_getf rfl rfl
theorem zs_250_20 : zrun zP sv C 250 20 [l0, l1] (.int x :: st) h = if x = 0 then zrun zP sv C 250 23 [l0, l1] st h else zrun zP sv C 250 37 [l0, l1] st h := (zx_if rfl rfl).trans zc1_if
theorem zs_250_23 : zrun zP sv C 250 23 [.val (.ref a), l1] st h = zrun zP sv C 250 24 [.val (.ref a), l1] (.ref a :: st) h := zx_go rfl rfl
theorem zs_250_24 : zrun zP sv C 250 24 [l0, l1] (.ref a :: st) h = zfld (h.1 a) 13 0 (fun v => zrun zP sv C 250 27 [l0, l1] (v :: st) h) := zx_getf rfl rfl
theorem zs_250_27 : zrun zP sv C 250 27 [l0, l1] st h = zrun zP sv C 250 28 [l0, l1] (.int (nI 3) :: st) h := zx_go rfl rfl
theorem zs_250_28 : zrun zP sv C 250 28 [l0, .val (.int x)] st h = zrun zP sv C 250 29 [l0, .val (.int x)] (.int x :: st) h := zx_go rfl rfl
theorem zs_250_29 : zrun zP sv C 250 29 [l0, l1] (.int y :: .int x :: st) h = zrun zP sv C 250 30 [l0, l1] (.int (x + y) :: st) h := zx_go rfl rfl
theorem zs_250_30 : zrun zP sv C 250 30 [l0, l1] st h = zrun zP sv C 250 32 [l0, l1] (.int (nI 97) :: st) h := zx_go rfl rfl
theorem zs_250_32 : zrun zP sv C 250 32 [l0, l1] (.int y :: .int x :: st) h = zrun zP sv C 250 33 [l0, l1] (.int (x - y) :: st) h := zx_go rfl rfl
theorem zs_250_33 : zrun zP sv C 250 33 [l0, l1] (.int x :: .ref a :: st) h = zael (h.1 a) 20 x (fun v => zrun zP sv C 250 34 [l0, l1] (v :: st) h) := zx_ald rfl rfl
theorem zs_250_34 : zrun zP sv C 250 34 [l0, l1] st h = zrun zP sv C 250 38 [l0, l1] st h := zx_go rfl rfl
theorem zs_250_37 : zrun zP sv C 250 37 [l0, l1] st h = zrun zP sv C 250 38 [l0, l1] (.int 0 :: st) h := zx_go rfl rfl
theorem zs_250_38 : zrun zP sv C 250 38 [l0, l1] [.int x] h = some (.inl (some (.int x)), h) := zx_end rfl rfl
theorem zs_251_0 : zrun zP sv C 251 0 [.val (.ref a)] st h = zrun zP sv C 251 1 [.val (.ref a)] (.ref a :: st) h := zx_go rfl rfl
theorem zs_251_1 : zrun zP sv C 251 1 [l0] st h = zrun zP sv C 251 2 [l0] (.int 0 :: st) h := zx_go rfl rfl
theorem zs_251_2 : zrun zP sv C 251 2 [l0] (.int x :: .ref a :: st) h = zpfd (h.1 a) 13 31 0 (.int x) (fun c => zrun zP sv C 251 5 [l0] st (zup h a c)) := zx_putf (x0 := 0) rfl rfl
theorem zs_251_5 : zrun zP sv C 251 5 [.val (.ref a)] st h = zrun zP sv C 251 6 [.val (.ref a)] (.ref a :: st) h := zx_go rfl rfl
theorem zs_251_6 : zrun zP sv C 251 6 [l0] (.ref a :: st) h = zfld (h.1 a) 13 0 (fun v => zrun zP sv C 251 9 [l0] (v :: st) h) := zx_getf rfl rfl
theorem zs_251_9 : zrun zP sv C 251 9 [l0] st h = zrun zP sv C 251 10 [l0] (.int (nI 1) :: st) h := zx_go rfl rfl
theorem zs_251_10 : zrun zP sv C 251 10 [l0] (.int x :: .ref a :: st) h = zael (h.1 a) 20 x (fun v => zrun zP sv C 251 11 [l0] (v :: st) h) := zx_ald rfl rfl
theorem zs_251_11 : zrun zP sv C 251 11 [l0] [.int x] h = some (.inl (some (.int x)), h) := zx_end rfl rfl
theorem zs_252_0 : zrun zP sv C 252 0 [.val (.ref a), l1] st h = zrun zP sv C 252 1 [.val (.ref a), l1] (.ref a :: st) h := zx_go rfl rfl
theorem zs_252_1 : zrun zP sv C 252 1 [.val (.ref a), l1] st h = zrun zP sv C 252 2 [.val (.ref a), l1] (.ref a :: st) h := zx_go rfl rfl
theorem zs_252_2 : zrun zP sv C 252 2 [l0, .val (.int x)] st h = zrun zP sv C 252 3 [l0, .val (.int x)] (.int x :: st) h := zx_go rfl rfl
theorem zs_252_3 : zrun zP sv C 252 3 [l0, l1] [v1, .ref b, r0] h = zrc (h.1 b) 13 (zbk (C 203 [.ref b, v1] h) (fun v h' => zrun zP sv C 252 6 [l0, l1] (v.toList ++ [r0]) h') (fun E h' => some (.inr E, h'))) := zx_cv (x0 := 13) rfl rfl rfl rfl rfl ⟨Nat.le_of_ble_eq_true rfl, rfl⟩ (fun _ _ => rfl)
theorem zs_252_6 : zrun zP sv C 252 6 [l0, l1] (.int x :: st) h = if x = 0 then zrun zP sv C 252 13 [l0, l1] st h else zrun zP sv C 252 9 [l0, l1] st h := (zx_if rfl rfl).trans zc0_if
theorem zs_252_9 : zrun zP sv C 252 9 [l0, l1] st h = zrun zP sv C 252 10 [l0, l1] (.int 0 :: st) h := zx_go rfl rfl
theorem zs_252_10 : zrun zP sv C 252 10 [l0, l1] st h = zrun zP sv C 252 14 [l0, l1] st h := zx_go rfl rfl
theorem zs_252_13 : zrun zP sv C 252 13 [l0, l1] st h = zrun zP sv C 252 14 [l0, l1] (.int (nI 1) :: st) h := zx_go rfl rfl
theorem zs_252_14 : zrun zP sv C 252 14 [l0, l1] (.int x :: .ref a :: st) h = zpfd (h.1 a) 13 31 0 (.int x) (fun c => zrun zP sv C 252 17 [l0, l1] st (zup h a c)) := zx_putf (x0 := 0) rfl rfl
theorem zs_252_17 : zrun zP sv C 252 17 [.val (.ref a), l1] st h = zrun zP sv C 252 18 [.val (.ref a), l1] (.ref a :: st) h := zx_go rfl rfl
theorem zs_252_18 : zrun zP sv C 252 18 [l0, l1] (.ref a :: st) h = zfld (h.1 a) 13 31 (fun v => zrun zP sv C 252 21 [l0, l1] (v :: st) h) := zx_getf rfl rfl
theorem zs_252_21 : zrun zP sv C 252 21 [l0, l1] (.int x :: st) h = if x = 0 then zrun zP sv C 252 24 [l0, l1] st h else zrun zP sv C 252 29 [l0, l1] st h := (zx_if rfl rfl).trans zc1_if
theorem zs_252_24 : zrun zP sv C 252 24 [.val (.ref a), l1] st h = zrun zP sv C 252 25 [.val (.ref a), l1] (.ref a :: st) h := zx_go rfl rfl
theorem zs_252_25 : zrun zP sv C 252 25 [l0, .val (.int x)] st h = zrun zP sv C 252 26 [l0, .val (.int x)] (.int x :: st) h := zx_go rfl rfl
theorem zs_252_26 : zrun zP sv C 252 26 [l0, l1] [v1, .ref b] h = zrc (h.1 b) 13 (zbk (C 206 [.ref b, v1] h) (fun v h' => zrun zP sv C 252 29 [l0, l1] (v.toList ++ []) h') (fun E h' => some (.inr E, h'))) := zx_cv (x0 := 13) rfl rfl rfl rfl rfl ⟨Nat.le_of_ble_eq_true rfl, rfl⟩ (fun _ _ => rfl)
theorem zs_252_29 : zrun zP sv C 252 29 [.val (.ref a), l1] st h = zrun zP sv C 252 30 [.val (.ref a), l1] (.ref a :: st) h := zx_go rfl rfl
theorem zs_252_30 : zrun zP sv C 252 30 [l0, l1] (.ref a :: st) h = zfld (h.1 a) 13 31 (fun v => zrun zP sv C 252 33 [l0, l1] (v :: st) h) := zx_getf rfl rfl
theorem zs_252_33 : zrun zP sv C 252 33 [l0, l1] (.int x :: st) h = if x = 0 then zrun zP sv C 252 36 [l0, l1] st h else zrun zP sv C 252 40 [l0, l1] st h := (zx_if rfl rfl).trans zc1_if
theorem zs_252_36 : zrun zP sv C 252 36 [l0, l1] st h = zrun zP sv C 252 37 [l0, l1] (.int (nI 1) :: st) h := zx_go rfl rfl
theorem zs_252_37 : zrun zP sv C 252 37 [l0, l1] st h = zrun zP sv C 252 41 [l0, l1] st h := zx_go rfl rfl
theorem zs_252_40 : zrun zP sv C 252 40 [l0, l1] st h = zrun zP sv C 252 41 [l0, l1] (.int 0 :: st) h := zx_go rfl rfl
theorem zs_252_41 : zrun zP sv C 252 41 [l0, l1] [.int x] h = zgd (zty 5 (.int x)) (some (.inl (some (.int x)), h)) := zx_rt rfl
theorem zs_253_0 : zrun zP sv C 253 0 [.val (.ref a), l1] st h = zrun zP sv C 253 1 [.val (.ref a), l1] (.ref a :: st) h := zx_go rfl rfl
theorem zs_253_1 : zrun zP sv C 253 1 [l0, .val (.int x)] st h = zrun zP sv C 253 2 [l0, .val (.int x)] (.int x :: st) h := zx_go rfl rfl
theorem zs_253_2 : zrun zP sv C 253 2 [l0, l1] [v1, .ref b] h = zrc (h.1 b) 13 (zbk (C 252 [.ref b, v1] h) (fun v h' => zrun zP sv C 253 5 [l0, l1] (v.toList ++ []) h') (fun E h' => some (.inr E, h'))) := zx_cv (x0 := 13) rfl rfl rfl rfl rfl ⟨Nat.le_of_ble_eq_true rfl, rfl⟩ (fun _ _ => rfl)
theorem zs_253_5 : zrun zP sv C 253 5 [l0, l1] (.int x :: st) h = if x = 0 then zrun zP sv C 253 15 [l0, l1] st h else zrun zP sv C 253 8 [l0, l1] st h := (zx_if rfl rfl).trans zc0_if
theorem zs_253_8 : zrun zP sv C 253 8 [.val (.ref a), l1] st h = zrun zP sv C 253 9 [.val (.ref a), l1] (.ref a :: st) h := zx_go rfl rfl
theorem zs_253_9 : zrun zP sv C 253 9 [l0, l1] (.ref a :: st) h = zfld (h.1 a) 13 8 (fun v => zrun zP sv C 253 12 [l0, l1] (v :: st) h) := zx_getf rfl rfl
theorem zs_253_12 : zrun zP sv C 253 12 [l0, l1] st h = zrun zP sv C 253 16 [l0, l1] st h := zx_go rfl rfl
theorem zs_253_15 : zrun zP sv C 253 15 [l0, l1] st h = zrun zP sv C 253 16 [l0, l1] (.int 0 :: st) h := zx_go rfl rfl
theorem zs_253_16 : zrun zP sv C 253 16 [l0, l1] [.int x] h = some (.inl (some (.int x)), h) := zx_end rfl rfl
theorem zs_254_0 : zrun zP sv C 254 0 [.val (.ref a), l1] st h = zrun zP sv C 254 1 [.val (.ref a), l1] (.ref a :: st) h := zx_go rfl rfl
theorem zs_254_1 : zrun zP sv C 254 1 [l0, .val (.int x)] st h = zrun zP sv C 254 2 [l0, .val (.int x)] (.int x :: st) h := zx_go rfl rfl
theorem zs_254_2 : zrun zP sv C 254 2 [l0, l1] [v1, .ref b] h = zrc (h.1 b) 13 (zbk (C 252 [.ref b, v1] h) (fun v h' => zrun zP sv C 254 5 [l0, l1] (v.toList ++ []) h') (fun E h' => some (.inr E, h'))) := zx_cv (x0 := 13) rfl rfl rfl rfl rfl ⟨Nat.le_of_ble_eq_true rfl, rfl⟩ (fun _ _ => rfl)
theorem zs_254_5 : zrun zP sv C 254 5 [l0, l1] (.int x :: st) h = if x = 0 then zrun zP sv C 254 16 [l0, l1] st h else zrun zP sv C 254 8 [l0, l1] st h := (zx_if rfl rfl).trans zc0_if
theorem zs_254_8 : zrun zP sv C 254 8 [.val (.ref a), l1] st h = zrun zP sv C 254 9 [.val (.ref a), l1] (.ref a :: st) h := zx_go rfl rfl
theorem zs_254_9 : zrun zP sv C 254 9 [l0, l1] st h = zrun zP sv C 254 10 [l0, l1] (.int (nI 1) :: st) h := zx_go rfl rfl
theorem zs_254_10 : zrun zP sv C 254 10 [l0, l1] [v1, .ref b] h = zrc (h.1 b) 13 (zbk (C 213 [.ref b, v1] h) (fun v h' => zrun zP sv C 254 13 [l0, l1] (v.toList ++ []) h') (fun E h' => some (.inr E, h'))) := zx_cv (x0 := 13) rfl rfl rfl rfl rfl ⟨Nat.le_of_ble_eq_true rfl, rfl⟩ (fun _ _ => rfl)
theorem zs_254_13 : zrun zP sv C 254 13 [l0, l1] st h = zrun zP sv C 254 17 [l0, l1] st h := zx_go rfl rfl
theorem zs_254_16 : zrun zP sv C 254 16 [l0, l1] st h = zrun zP sv C 254 17 [l0, l1] (.int 0 :: st) h := zx_go rfl rfl
theorem zs_254_17 : zrun zP sv C 254 17 [l0, l1] [.int x] h = some (.inl (some (.int x)), h) := zx_end rfl rfl
theorem zs_255_0 : zrun zP sv C 255 0 [.val (.ref a), l1, l2] st h = zrun zP sv C 255 1 [.val (.ref a), l1, l2] (.ref a :: st) h := zx_go rfl rfl
theorem zs_255_1 : zrun zP sv C 255 1 [l0, .val (.int x), l2] st h = zrun zP sv C 255 2 [l0, .val (.int x), l2] (.int x :: st) h := zx_go rfl rfl
theorem zs_255_2 : zrun zP sv C 255 2 [l0, l1, l2] [v1, .ref b] h = zrc (h.1 b) 13 (zbk (C 252 [.ref b, v1] h) (fun v h' => zrun zP sv C 255 5 [l0, l1, l2] (v.toList ++ []) h') (fun E h' => some (.inr E, h'))) := zx_cv (x0 := 13) rfl rfl rfl rfl rfl ⟨Nat.le_of_ble_eq_true rfl, rfl⟩ (fun _ _ => rfl)
theorem zs_255_5 : zrun zP sv C 255 5 [l0, l1, l2] (.int x :: st) h = if x = 0 then zrun zP sv C 255 8 [l0, l1, l2] st h else zrun zP sv C 255 10 [l0, l1, l2] st h := (zx_if rfl rfl).trans zc1_if
theorem zs_255_8 : zrun zP sv C 255 8 [l0, l1, l2] st h = zrun zP sv C 255 9 [l0, l1, l2] (.int 0 :: st) h := zx_go rfl rfl
theorem zs_255_9 : zrun zP sv C 255 9 [l0, l1, l2] [.int x] h = some (.inl (some (.int x)), h) := zx_end rfl rfl
theorem zs_255_10 : zrun zP sv C 255 10 [l0, l1, .val (.int x)] st h = zrun zP sv C 255 11 [l0, l1, .val (.int x)] (.int x :: st) h := zx_go rfl rfl
theorem zs_255_11 : zrun zP sv C 255 11 [l0, l1, l2] [v0] h = zbk (C 204 [v0] h) (fun v h' => zrun zP sv C 255 14 [l0, l1, l2] (v.toList ++ []) h') (fun E h' => some (.inr E, h')) := zx_cs rfl rfl rfl rfl ⟨Nat.le_of_ble_eq_true rfl, rfl⟩ (fun _ _ => rfl)
theorem zs_255_14 : zrun zP sv C 255 14 [l0, l1, l2] (.int x :: st) h = if x = 0 then zrun zP sv C 255 28 [l0, l1, l2] st h else zrun zP sv C 255 17 [l0, l1, l2] st h := (zx_if rfl rfl).trans zc0_if
theorem zs_255_17 : zrun zP sv C 255 17 [.val (.ref a), l1, l2] st h = zrun zP sv C 255 18 [.val (.ref a), l1, l2] (.ref a :: st) h := zx_go rfl rfl
theorem zs_255_18 : zrun zP sv C 255 18 [l0, l1, .val (.int x)] st h = zrun zP sv C 255 19 [l0, l1, .val (.int x)] (.int x :: st) h := zx_go rfl rfl
theorem zs_255_19 : zrun zP sv C 255 19 [l0, l1, l2] st h = zrun zP sv C 255 21 [l0, l1, l2] (.int (nI 97) :: st) h := zx_go rfl rfl
theorem zs_255_21 : zrun zP sv C 255 21 [l0, l1, l2] (.int y :: .int x :: st) h = zrun zP sv C 255 22 [l0, l1, l2] (.int (x - y) :: st) h := zx_go rfl rfl
theorem zs_255_22 : zrun zP sv C 255 22 [l0, l1, l2] [v1, .ref b] h = zrc (h.1 b) 13 (zbk (C 242 [.ref b, v1] h) (fun v h' => zrun zP sv C 255 25 [l0, l1, l2] (v.toList ++ []) h') (fun E h' => some (.inr E, h'))) := zx_cv (x0 := 13) rfl rfl rfl rfl rfl ⟨Nat.le_of_ble_eq_true rfl, rfl⟩ (fun _ _ => rfl)
theorem zs_255_25 : zrun zP sv C 255 25 [l0, l1, l2] st h = zrun zP sv C 255 33 [l0, l1, l2] st h := zx_go rfl rfl
theorem zs_255_28 : zrun zP sv C 255 28 [.val (.ref a), l1, l2] st h = zrun zP sv C 255 29 [.val (.ref a), l1, l2] (.ref a :: st) h := zx_go rfl rfl
theorem zs_255_29 : zrun zP sv C 255 29 [l0, l1, l2] st h = zrun zP sv C 255 30 [l0, l1, l2] (.int (nI 2) :: st) h := zx_go rfl rfl
theorem zs_255_30 : zrun zP sv C 255 30 [l0, l1, l2] [v1, .ref b] h = zrc (h.1 b) 13 (zbk (C 198 [.ref b, v1] h) (fun v h' => zrun zP sv C 255 33 [l0, l1, l2] (v.toList ++ []) h') (fun E h' => some (.inr E, h'))) := zx_cv (x0 := 13) rfl rfl rfl rfl rfl ⟨Nat.le_of_ble_eq_true rfl, rfl⟩ (fun _ _ => rfl)
theorem zs_255_33 : zrun zP sv C 255 33 [l0, l1, l2] [.int x] h = some (.inl (some (.int x)), h) := zx_end rfl rfl
theorem zs_256_0 : zrun zP sv C 256 0 [.val (.ref a), l1] st h = zrun zP sv C 256 1 [.val (.ref a), l1] (.ref a :: st) h := zx_go rfl rfl
theorem zs_256_1 : zrun zP sv C 256 1 [l0, .val (.int x)] st h = zrun zP sv C 256 2 [l0, .val (.int x)] (.int x :: st) h := zx_go rfl rfl
theorem zs_256_2 : zrun zP sv C 256 2 [l0, l1] [v1, .ref b] h = zrc (h.1 b) 13 (zbk (C 252 [.ref b, v1] h) (fun v h' => zrun zP sv C 256 5 [l0, l1] (v.toList ++ []) h') (fun E h' => some (.inr E, h'))) := zx_cv (x0 := 13) rfl rfl rfl rfl rfl ⟨Nat.le_of_ble_eq_true rfl, rfl⟩ (fun _ _ => rfl)
theorem zs_256_5 : zrun zP sv C 256 5 [l0, l1] (.int x :: st) h = if x = 0 then zrun zP sv C 256 16 [l0, l1] st h else zrun zP sv C 256 8 [l0, l1] st h := (zx_if rfl rfl).trans zc0_if
theorem zs_256_8 : zrun zP sv C 256 8 [.val (.ref a), l1] st h = zrun zP sv C 256 9 [.val (.ref a), l1] (.ref a :: st) h := zx_go rfl rfl
theorem zs_256_9 : zrun zP sv C 256 9 [l0, l1] st h = zrun zP sv C 256 10 [l0, l1] (.int (nI 2) :: st) h := zx_go rfl rfl
theorem zs_256_10 : zrun zP sv C 256 10 [l0, l1] [v1, .ref b] h = zrc (h.1 b) 13 (zbk (C 213 [.ref b, v1] h) (fun v h' => zrun zP sv C 256 13 [l0, l1] (v.toList ++ []) h') (fun E h' => some (.inr E, h'))) := zx_cv (x0 := 13) rfl rfl rfl rfl rfl ⟨Nat.le_of_ble_eq_true rfl, rfl⟩ (fun _ _ => rfl)
theorem zs_256_13 : zrun zP sv C 256 13 [l0, l1] st h = zrun zP sv C 256 17 [l0, l1] st h := zx_go rfl rfl
theorem zs_256_16 : zrun zP sv C 256 16 [l0, l1] st h = zrun zP sv C 256 17 [l0, l1] (.int 0 :: st) h := zx_go rfl rfl
theorem zs_256_17 : zrun zP sv C 256 17 [l0, l1] [.int x] h = some (.inl (some (.int x)), h) := zx_end rfl rfl
theorem zs_257_0 : zrun zP sv C 257 0 [.val (.ref a), l1, l2, l3] st h = zrun zP sv C 257 1 [.val (.ref a), l1, l2, l3] (.ref a :: st) h := zx_go rfl rfl
theorem zs_257_1 : zrun zP sv C 257 1 [l0, .val (.int x), l2, l3] st h = zrun zP sv C 257 2 [l0, .val (.int x), l2, l3] (.int x :: st) h := zx_go rfl rfl
theorem zs_257_2 : zrun zP sv C 257 2 [l0, l1, l2, l3] [v1, .ref b] h = zrc (h.1 b) 13 (zbk (C 252 [.ref b, v1] h) (fun v h' => zrun zP sv C 257 5 [l0, l1, l2, l3] (v.toList ++ []) h') (fun E h' => some (.inr E, h'))) := zx_cv (x0 := 13) rfl rfl rfl rfl rfl ⟨Nat.le_of_ble_eq_true rfl, rfl⟩ (fun _ _ => rfl)
theorem zs_257_5 : zrun zP sv C 257 5 [l0, l1, l2, l3] (.int x :: st) h = if x = 0 then zrun zP sv C 257 8 [l0, l1, l2, l3] st h else zrun zP sv C 257 10 [l0, l1, l2, l3] st h := (zx_if rfl rfl).trans zc1_if
theorem zs_257_8 : zrun zP sv C 257 8 [l0, l1, l2, l3] st h = zrun zP sv C 257 9 [l0, l1, l2, l3] (.int 0 :: st) h := zx_go rfl rfl
theorem zs_257_9 : zrun zP sv C 257 9 [l0, l1, l2, l3] [.int x] h = zgd (zty 5 (.int x)) (some (.inl (some (.int x)), h)) := zx_rt rfl
theorem zs_257_10 : zrun zP sv C 257 10 [l0, l1, l2, l3] st h = zrun zP sv C 257 11 [l0, l1, l2, l3] (.int 0 :: st) h := zx_go rfl rfl
theorem zs_257_11 (hs : znw l2 = true) : zrun zP sv C 257 11 [l0, l1, l2, l3] (.int x :: st) h = zrun zP sv C 257 12 [l0, l1, .val (.int x), l3] st h := zx_st hs rfl rfl rfl rfl rfl rfl
theorem zs_257_12 : zrun zP sv C 257 12 [l0, l1, l2, l3] st h = zrun zP sv C 257 13 [l0, l1, l2, l3] (.int 0 :: st) h := zx_go rfl rfl
theorem zs_257_13 (hs : znw l3 = true) : zrun zP sv C 257 13 [l0, l1, l2, l3] (.int x :: st) h = zrun zP sv C 257 14 [l0, l1, l2, .val (.int x)] st h := zx_st hs rfl rfl rfl rfl rfl rfl
theorem zs_257_14 : zrun zP sv C 257 14 [l0, l1, l2, .val (.int x)] st h = zrun zP sv C 257 15 [l0, l1, l2, .val (.int x)] (.int x :: st) h := zx_go rfl rfl
theorem zs_257_15 : zrun zP sv C 257 15 [.val (.ref a), l1, l2, l3] st h = zrun zP sv C 257 16 [.val (.ref a), l1, l2, l3] (.ref a :: st) h := zx_go rfl rfl
theorem zs_257_16 : zrun zP sv C 257 16 [l0, l1, l2, l3] (.ref a :: st) h = zfld (h.1 a) 13 8 (fun v => zrun zP sv C 257 19 [l0, l1, l2, l3] (v :: st) h) := zx_getf rfl rfl
theorem zs_257_19 : zrun zP sv C 257 19 [l0, l1, l2, l3] (.int y :: .int x :: st) h = if x < y then zrun zP sv C 257 22 [l0, l1, l2, l3] st h else zrun zP sv C 257 42 [l0, l1, l2, l3] st h := (zx_ic rfl rfl).trans zc3_if
theorem zs_257_22 : zrun zP sv C 257 22 [.val (.ref a), l1, l2, l3] st h = zrun zP sv C 257 23 [.val (.ref a), l1, l2, l3] (.ref a :: st) h := zx_go rfl rfl
theorem zs_257_23 : zrun zP sv C 257 23 [l0, l1, l2, l3] (.ref a :: st) h = zfld (h.1 a) 13 6 (fun v => zrun zP sv C 257 26 [l0, l1, l2, l3] (v :: st) h) := zx_getf rfl rfl
theorem zs_257_26 : zrun zP sv C 257 26 [l0, l1, l2, .val (.int x)] st h = zrun zP sv C 257 27 [l0, l1, l2, .val (.int x)] (.int x :: st) h := zx_go rfl rfl
theorem zs_257_27 : zrun zP sv C 257 27 [l0, l1, l2, l3] (.int x :: .ref a :: st) h = zael (h.1 a) 21 x (fun v => zrun zP sv C 257 28 [l0, l1, l2, l3] (v :: st) h) := zx_ald rfl rfl
theorem zs_257_28 : zrun zP sv C 257 28 [l0, l1, l2, l3] st h = zrun zP sv C 257 30 [l0, l1, l2, l3] (.int (nI 118) :: st) h := zx_go rfl rfl
theorem zs_257_30 : zrun zP sv C 257 30 [l0, l1, l2, l3] (.int y :: .int x :: st) h = if x = y then zrun zP sv C 257 33 [l0, l1, l2, l3] st h else zrun zP sv C 257 36 [l0, l1, l2, l3] st h := (zx_ic rfl rfl).trans zc1_if
theorem zs_257_33 : zrun zP sv C 257 33 [l0, l1, .val (.int x), l3] st h = zrun zP sv C 257 36 [l0, l1, .val (.int (x + (nI 1))), l3] st h := zx_ii rfl rfl rfl rfl rfl
theorem zs_257_36 : zrun zP sv C 257 36 [l0, l1, l2, .val (.int x)] st h = zrun zP sv C 257 39 [l0, l1, l2, .val (.int (x + (nI 1)))] st h := zx_ii rfl rfl rfl rfl rfl
theorem zs_257_39 : zrun zP sv C 257 39 [l0, l1, l2, l3] st h = zrun zP sv C 257 14 [l0, l1, l2, l3] st h := zx_go rfl rfl
theorem zs_257_42 : zrun zP sv C 257 42 [l0, l1, .val (.int x), l3] st h = zrun zP sv C 257 43 [l0, l1, .val (.int x), l3] (.int x :: st) h := zx_go rfl rfl
theorem zs_257_43 : zrun zP sv C 257 43 [l0, l1, l2, l3] (.int x :: st) h = if x = 0 then zrun zP sv C 257 46 [l0, l1, l2, l3] st h else zrun zP sv C 257 50 [l0, l1, l2, l3] st h := (zx_if rfl rfl).trans zc1_if
theorem zs_257_46 : zrun zP sv C 257 46 [l0, l1, l2, l3] st h = zrun zP sv C 257 47 [l0, l1, l2, l3] (.int (nI 1) :: st) h := zx_go rfl rfl
theorem zs_257_47 : zrun zP sv C 257 47 [l0, l1, l2, l3] st h = zrun zP sv C 257 51 [l0, l1, l2, l3] st h := zx_go rfl rfl
theorem zs_257_50 : zrun zP sv C 257 50 [l0, l1, l2, l3] st h = zrun zP sv C 257 51 [l0, l1, l2, l3] (.int 0 :: st) h := zx_go rfl rfl
theorem zs_257_51 : zrun zP sv C 257 51 [l0, l1, l2, l3] [.int x] h = zgd (zty 5 (.int x)) (some (.inl (some (.int x)), h)) := zx_rt rfl
theorem zs_258_0 : zrun zP sv C 258 0 [.val (.ref a), l1, l2, l3, l4] st h = zrun zP sv C 258 1 [.val (.ref a), l1, l2, l3, l4] (.ref a :: st) h := zx_go rfl rfl
theorem zs_258_1 : zrun zP sv C 258 1 [.val (.ref a), l1, l2, l3, l4] st h = zrun zP sv C 258 2 [.val (.ref a), l1, l2, l3, l4] (.ref a :: st) h := zx_go rfl rfl
theorem zs_258_2 : zrun zP sv C 258 2 [l0, .val (.int x), l2, l3, l4] st h = zrun zP sv C 258 3 [l0, .val (.int x), l2, l3, l4] (.int x :: st) h := zx_go rfl rfl
theorem zs_258_3 : zrun zP sv C 258 3 [l0, l1, l2, l3, l4] [v1, .ref b, r0] h = zrc (h.1 b) 13 (zbk (C 203 [.ref b, v1] h) (fun v h' => zrun zP sv C 258 6 [l0, l1, l2, l3, l4] (v.toList ++ [r0]) h') (fun E h' => some (.inr E, h'))) := zx_cv (x0 := 13) rfl rfl rfl rfl rfl ⟨Nat.le_of_ble_eq_true rfl, rfl⟩ (fun _ _ => rfl)
theorem zs_258_6 : zrun zP sv C 258 6 [l0, l1, l2, l3, l4] (.int x :: st) h = if x = 0 then zrun zP sv C 258 21 [l0, l1, l2, l3, l4] st h else zrun zP sv C 258 9 [l0, l1, l2, l3, l4] st h := (zx_if rfl rfl).trans zc0_if
theorem zs_258_9 : zrun zP sv C 258 9 [.val (.ref a), l1, l2, l3, l4] st h = zrun zP sv C 258 10 [.val (.ref a), l1, l2, l3, l4] (.ref a :: st) h := zx_go rfl rfl
theorem zs_258_10 : zrun zP sv C 258 10 [l0, l1, .val (.int x), l3, l4] st h = zrun zP sv C 258 11 [l0, l1, .val (.int x), l3, l4] (.int x :: st) h := zx_go rfl rfl
theorem zs_258_11 : zrun zP sv C 258 11 [l0, l1, l2, l3, l4] [v1, .ref b, r0] h = zrc (h.1 b) 13 (zbk (C 203 [.ref b, v1] h) (fun v h' => zrun zP sv C 258 14 [l0, l1, l2, l3, l4] (v.toList ++ [r0]) h') (fun E h' => some (.inr E, h'))) := zx_cv (x0 := 13) rfl rfl rfl rfl rfl ⟨Nat.le_of_ble_eq_true rfl, rfl⟩ (fun _ _ => rfl)
theorem zs_258_14 : zrun zP sv C 258 14 [l0, l1, l2, l3, l4] (.int x :: st) h = if x = 0 then zrun zP sv C 258 21 [l0, l1, l2, l3, l4] st h else zrun zP sv C 258 17 [l0, l1, l2, l3, l4] st h := (zx_if rfl rfl).trans zc0_if
theorem zs_258_17 : zrun zP sv C 258 17 [l0, l1, l2, l3, l4] st h = zrun zP sv C 258 18 [l0, l1, l2, l3, l4] (.int 0 :: st) h := zx_go rfl rfl
theorem zs_258_18 : zrun zP sv C 258 18 [l0, l1, l2, l3, l4] st h = zrun zP sv C 258 22 [l0, l1, l2, l3, l4] st h := zx_go rfl rfl
theorem zs_258_21 : zrun zP sv C 258 21 [l0, l1, l2, l3, l4] st h = zrun zP sv C 258 22 [l0, l1, l2, l3, l4] (.int (nI 1) :: st) h := zx_go rfl rfl
theorem zs_258_22 : zrun zP sv C 258 22 [l0, l1, l2, l3, l4] (.int x :: .ref a :: st) h = zpfd (h.1 a) 13 31 0 (.int x) (fun c => zrun zP sv C 258 25 [l0, l1, l2, l3, l4] st (zup h a c)) := zx_putf (x0 := 0) rfl rfl
theorem zs_258_25 : zrun zP sv C 258 25 [.val (.ref a), l1, l2, l3, l4] st h = zrun zP sv C 258 26 [.val (.ref a), l1, l2, l3, l4] (.ref a :: st) h := zx_go rfl rfl
theorem zs_258_26 : zrun zP sv C 258 26 [l0, l1, l2, l3, l4] (.ref a :: st) h = zfld (h.1 a) 13 31 (fun v => zrun zP sv C 258 29 [l0, l1, l2, l3, l4] (v :: st) h) := zx_getf rfl rfl
theorem zs_258_29 : zrun zP sv C 258 29 [l0, l1, l2, l3, l4] (.int x :: st) h = if 0 < x then zrun zP sv C 258 32 [l0, l1, l2, l3, l4] st h else zrun zP sv C 258 34 [l0, l1, l2, l3, l4] st h := (zx_if rfl rfl).trans zc5_if
theorem zs_258_32 : zrun zP sv C 258 32 [l0, l1, l2, l3, l4] st h = zrun zP sv C 258 33 [l0, l1, l2, l3, l4] (.int (-1) :: st) h := zx_go rfl rfl
theorem zs_258_33 : zrun zP sv C 258 33 [l0, l1, l2, l3, l4] [.int x] h = some (.inl (some (.int x)), h) := zx_end rfl rfl
theorem zs_258_34 : zrun zP sv C 258 34 [.val (.ref a), l1, l2, l3, l4] st h = zrun zP sv C 258 35 [.val (.ref a), l1, l2, l3, l4] (.ref a :: st) h := zx_go rfl rfl
theorem zs_258_35 : zrun zP sv C 258 35 [l0, l1, l2, l3, l4] st h = zrun zP sv C 258 36 [l0, l1, l2, l3, l4] (.int 0 :: st) h := zx_go rfl rfl
theorem zs_258_36 : zrun zP sv C 258 36 [l0, l1, l2, l3, l4] (.int x :: .ref a :: st) h = zpfd (h.1 a) 13 11 0 (.int x) (fun c => zrun zP sv C 258 39 [l0, l1, l2, l3, l4] st (zup h a c)) := zx_putf (x0 := 0) rfl rfl
theorem zs_258_39 : zrun zP sv C 258 39 [.val (.ref a), l1, l2, l3, l4] st h = zrun zP sv C 258 40 [.val (.ref a), l1, l2, l3, l4] (.ref a :: st) h := zx_go rfl rfl
theorem zs_258_40 : zrun zP sv C 258 40 [l0, l1, .val (.int x), l3, l4] st h = zrun zP sv C 258 41 [l0, l1, .val (.int x), l3, l4] (.int x :: st) h := zx_go rfl rfl
theorem zs_258_41 : zrun zP sv C 258 41 [l0, l1, l2, l3, l4] [v1, .ref b] h = zrc (h.1 b) 13 (zbk (C 206 [.ref b, v1] h) (fun v h' => zrun zP sv C 258 44 [l0, l1, l2, l3, l4] (v.toList ++ []) h') (fun E h' => some (.inr E, h'))) := zx_cv (x0 := 13) rfl rfl rfl rfl rfl ⟨Nat.le_of_ble_eq_true rfl, rfl⟩ (fun _ _ => rfl)
theorem zs_258_44 : zrun zP sv C 258 44 [l0, l1, l2, l3, l4] st h = zrun zP sv C 258 45 [l0, l1, l2, l3, l4] (.int 0 :: st) h := zx_go rfl rfl
theorem zs_258_45 (hs : znw l3 = true) : zrun zP sv C 258 45 [l0, l1, l2, l3, l4] (.int x :: st) h = zrun zP sv C 258 46 [l0, l1, l2, .val (.int x), l4] st h := zx_st hs rfl rfl rfl rfl rfl rfl
theorem zs_258_46 : zrun zP sv C 258 46 [l0, l1, l2, .val (.int x), l4] st h = zrun zP sv C 258 47 [l0, l1, l2, .val (.int x), l4] (.int x :: st) h := zx_go rfl rfl
theorem zs_258_47 : zrun zP sv C 258 47 [.val (.ref a), l1, l2, l3, l4] st h = zrun zP sv C 258 48 [.val (.ref a), l1, l2, l3, l4] (.ref a :: st) h := zx_go rfl rfl
theorem zs_258_48 : zrun zP sv C 258 48 [l0, l1, l2, l3, l4] (.ref a :: st) h = zfld (h.1 a) 13 8 (fun v => zrun zP sv C 258 51 [l0, l1, l2, l3, l4] (v :: st) h) := zx_getf rfl rfl
theorem zs_258_51 : zrun zP sv C 258 51 [l0, l1, l2, l3, l4] (.int y :: .int x :: st) h = if x < y then zrun zP sv C 258 54 [l0, l1, l2, l3, l4] st h else zrun zP sv C 258 76 [l0, l1, l2, l3, l4] st h := (zx_ic rfl rfl).trans zc3_if
theorem zs_258_54 : zrun zP sv C 258 54 [.val (.ref a), l1, l2, l3, l4] st h = zrun zP sv C 258 55 [.val (.ref a), l1, l2, l3, l4] (.ref a :: st) h := zx_go rfl rfl
theorem zs_258_55 : zrun zP sv C 258 55 [.val (.ref a), l1, l2, l3, l4] st h = zrun zP sv C 258 56 [.val (.ref a), l1, l2, l3, l4] (.ref a :: st) h := zx_go rfl rfl
theorem zs_258_56 : zrun zP sv C 258 56 [l0, l1, l2, l3, l4] (.ref a :: st) h = zfld (h.1 a) 13 6 (fun v => zrun zP sv C 258 59 [l0, l1, l2, l3, l4] (v :: st) h) := zx_getf rfl rfl
theorem zs_258_59 : zrun zP sv C 258 59 [l0, l1, l2, .val (.int x), l4] st h = zrun zP sv C 258 60 [l0, l1, l2, .val (.int x), l4] (.int x :: st) h := zx_go rfl rfl
theorem zs_258_60 : zrun zP sv C 258 60 [l0, l1, l2, l3, l4] (.int x :: .ref a :: st) h = zael (h.1 a) 21 x (fun v => zrun zP sv C 258 61 [l0, l1, l2, l3, l4] (v :: st) h) := zx_ald rfl rfl
theorem zs_258_61 : zrun zP sv C 258 61 [.val (.ref a), l1, l2, l3, l4] st h = zrun zP sv C 258 62 [.val (.ref a), l1, l2, l3, l4] (.ref a :: st) h := zx_go rfl rfl
theorem zs_258_62 : zrun zP sv C 258 62 [l0, l1, l2, l3, l4] (.ref a :: st) h = zfld (h.1 a) 13 7 (fun v => zrun zP sv C 258 65 [l0, l1, l2, l3, l4] (v :: st) h) := zx_getf rfl rfl
theorem zs_258_65 : zrun zP sv C 258 65 [l0, l1, l2, .val (.int x), l4] st h = zrun zP sv C 258 66 [l0, l1, l2, .val (.int x), l4] (.int x :: st) h := zx_go rfl rfl
theorem zs_258_66 : zrun zP sv C 258 66 [l0, l1, l2, l3, l4] (.int x :: .ref a :: st) h = zael (h.1 a) 20 x (fun v => zrun zP sv C 258 67 [l0, l1, l2, l3, l4] (v :: st) h) := zx_ald rfl rfl
theorem zs_258_67 : zrun zP sv C 258 67 [l0, l1, l2, l3, l4] [v2, v1, .ref b] h = zrc (h.1 b) 13 (zbk (C 216 [.ref b, v1, v2] h) (fun v h' => zrun zP sv C 258 70 [l0, l1, l2, l3, l4] (v.toList ++ []) h') (fun E h' => some (.inr E, h'))) := zx_cv (x0 := 13) rfl rfl rfl rfl rfl ⟨Nat.le_of_ble_eq_true rfl, rfl⟩ (fun _ _ => rfl)
theorem zs_258_70 : zrun zP sv C 258 70 [l0, l1, l2, .val (.int x), l4] st h = zrun zP sv C 258 73 [l0, l1, l2, .val (.int (x + (nI 1))), l4] st h := zx_ii rfl rfl rfl rfl rfl
theorem zs_258_73 : zrun zP sv C 258 73 [l0, l1, l2, l3, l4] st h = zrun zP sv C 258 46 [l0, l1, l2, l3, l4] st h := zx_go rfl rfl
theorem zs_258_76 : zrun zP sv C 258 76 [.val (.ref a), l1, l2, l3, l4] st h = zrun zP sv C 258 77 [.val (.ref a), l1, l2, l3, l4] (.ref a :: st) h := zx_go rfl rfl
theorem zs_258_77 : zrun zP sv C 258 77 [l0, .val (.int x), l2, l3, l4] st h = zrun zP sv C 258 78 [l0, .val (.int x), l2, l3, l4] (.int x :: st) h := zx_go rfl rfl
theorem zs_258_78 : zrun zP sv C 258 78 [l0, l1, l2, l3, l4] [v1, .ref b] h = zrc (h.1 b) 13 (zbk (C 206 [.ref b, v1] h) (fun v h' => zrun zP sv C 258 81 [l0, l1, l2, l3, l4] (v.toList ++ []) h') (fun E h' => some (.inr E, h'))) := zx_cv (x0 := 13) rfl rfl rfl rfl rfl ⟨Nat.le_of_ble_eq_true rfl, rfl⟩ (fun _ _ => rfl)
theorem zs_258_81 : zrun zP sv C 258 81 [.val (.ref a), l1, l2, l3, l4] st h = zrun zP sv C 258 82 [.val (.ref a), l1, l2, l3, l4] (.ref a :: st) h := zx_go rfl rfl
theorem zs_258_82 : zrun zP sv C 258 82 [l0, l1, l2, l3, l4] (.ref a :: st) h = zfld (h.1 a) 13 8 (fun v => zrun zP sv C 258 85 [l0, l1, l2, l3, l4] (v :: st) h) := zx_getf rfl rfl
theorem zs_258_85 (hs : znw l3 = true) : zrun zP sv C 258 85 [l0, l1, l2, l3, l4] (.int x :: st) h = zrun zP sv C 258 86 [l0, l1, l2, .val (.int x), l4] st h := zx_st hs rfl rfl rfl rfl rfl rfl
theorem zs_258_86 : zrun zP sv C 258 86 [l0, l1, l2, l3, l4] st h = zrun zP sv C 258 87 [l0, l1, l2, l3, l4] (.int 0 :: st) h := zx_go rfl rfl
theorem zs_258_87 (hs : znw l4 = true) : zrun zP sv C 258 87 [l0, l1, l2, l3, l4] (.int x :: st) h = zrun zP sv C 258 89 [l0, l1, l2, l3, .val (.int x)] st h := zx_st hs rfl rfl rfl rfl rfl rfl
theorem zs_258_89 : zrun zP sv C 258 89 [l0, l1, l2, l3, .val (.int x)] st h = zrun zP sv C 258 91 [l0, l1, l2, l3, .val (.int x)] (.int x :: st) h := zx_go rfl rfl
theorem zs_258_91 : zrun zP sv C 258 91 [.val (.ref a), l1, l2, l3, l4] st h = zrun zP sv C 258 92 [.val (.ref a), l1, l2, l3, l4] (.ref a :: st) h := zx_go rfl rfl
theorem zs_258_92 : zrun zP sv C 258 92 [l0, l1, l2, l3, l4] (.ref a :: st) h = zfld (h.1 a) 13 11 (fun v => zrun zP sv C 258 95 [l0, l1, l2, l3, l4] (v :: st) h) := zx_getf rfl rfl
theorem zs_258_95 : zrun zP sv C 258 95 [l0, l1, l2, l3, l4] (.int y :: .int x :: st) h = if x < y then zrun zP sv C 258 98 [l0, l1, l2, l3, l4] st h else zrun zP sv C 258 143 [l0, l1, l2, l3, l4] st h := (zx_ic rfl rfl).trans zc3_if
theorem zs_258_98 : zrun zP sv C 258 98 [.val (.ref a), l1, l2, l3, l4] st h = zrun zP sv C 258 99 [.val (.ref a), l1, l2, l3, l4] (.ref a :: st) h := zx_go rfl rfl
theorem zs_258_99 : zrun zP sv C 258 99 [l0, l1, l2, l3, l4] (.ref a :: st) h = zfld (h.1 a) 13 6 (fun v => zrun zP sv C 258 102 [l0, l1, l2, l3, l4] (v :: st) h) := zx_getf rfl rfl
theorem zs_258_102 : zrun zP sv C 258 102 [.val (.ref a), l1, l2, l3, l4] st h = zrun zP sv C 258 103 [.val (.ref a), l1, l2, l3, l4] (.ref a :: st) h := zx_go rfl rfl
theorem zs_258_103 : zrun zP sv C 258 103 [l0, l1, l2, l3, l4] (.ref a :: st) h = zfld (h.1 a) 13 8 (fun v => zrun zP sv C 258 106 [l0, l1, l2, l3, l4] (v :: st) h) := zx_getf rfl rfl
theorem zs_258_106 : zrun zP sv C 258 106 [.val (.ref a), l1, l2, l3, l4] st h = zrun zP sv C 258 107 [.val (.ref a), l1, l2, l3, l4] (.ref a :: st) h := zx_go rfl rfl
theorem zs_258_107 : zrun zP sv C 258 107 [l0, l1, l2, l3, l4] (.ref a :: st) h = zfld (h.1 a) 13 9 (fun v => zrun zP sv C 258 110 [l0, l1, l2, l3, l4] (v :: st) h) := zx_getf rfl rfl
theorem zs_258_110 : zrun zP sv C 258 110 [l0, l1, l2, l3, .val (.int x)] st h = zrun zP sv C 258 112 [l0, l1, l2, l3, .val (.int x)] (.int x :: st) h := zx_go rfl rfl
theorem zs_258_112 : zrun zP sv C 258 112 [l0, l1, l2, l3, l4] (.int x :: .ref a :: st) h = zael (h.1 a) 21 x (fun v => zrun zP sv C 258 113 [l0, l1, l2, l3, l4] (v :: st) h) := zx_ald rfl rfl
theorem zs_258_113 : zrun zP sv C 258 113 [l0, l1, l2, l3, l4] (.int y :: .int x :: .ref a :: st) h = zaset (h.1 a) 21 x (.int y) (fun c => zrun zP sv C 258 114 [l0, l1, l2, l3, l4] st (zup h a c)) := zx_ast rfl rfl
theorem zs_258_114 : zrun zP sv C 258 114 [.val (.ref a), l1, l2, l3, l4] st h = zrun zP sv C 258 115 [.val (.ref a), l1, l2, l3, l4] (.ref a :: st) h := zx_go rfl rfl
theorem zs_258_115 : zrun zP sv C 258 115 [l0, l1, l2, l3, l4] (.ref a :: st) h = zfld (h.1 a) 13 7 (fun v => zrun zP sv C 258 118 [l0, l1, l2, l3, l4] (v :: st) h) := zx_getf rfl rfl
theorem zs_258_118 : zrun zP sv C 258 118 [.val (.ref a), l1, l2, l3, l4] st h = zrun zP sv C 258 119 [.val (.ref a), l1, l2, l3, l4] (.ref a :: st) h := zx_go rfl rfl
theorem zs_258_119 : zrun zP sv C 258 119 [l0, l1, l2, l3, l4] (.ref a :: st) h = zrun zP sv C 258 120 [l0, l1, l2, l3, l4] (.ref a :: .ref a :: st) h := zx_go rfl rfl
theorem zs_258_120 : zrun zP sv C 258 120 [l0, l1, l2, l3, l4] (.ref a :: st) h = zfld (h.1 a) 13 8 (fun v => zrun zP sv C 258 123 [l0, l1, l2, l3, l4] (v :: st) h) := zx_getf rfl rfl
theorem zs_258_123 : zrun zP sv C 258 123 [l0, l1, l2, l3, l4] (.int x :: .ref b :: st) h = zrun zP sv C 258 124 [l0, l1, l2, l3, l4] (.int x :: .ref b :: .int x :: st) h := zx_go rfl rfl
theorem zs_258_124 : zrun zP sv C 258 124 [l0, l1, l2, l3, l4] st h = zrun zP sv C 258 125 [l0, l1, l2, l3, l4] (.int (nI 1) :: st) h := zx_go rfl rfl
theorem zs_258_125 : zrun zP sv C 258 125 [l0, l1, l2, l3, l4] (.int y :: .int x :: st) h = zrun zP sv C 258 126 [l0, l1, l2, l3, l4] (.int (x + y) :: st) h := zx_go rfl rfl
theorem zs_258_126 : zrun zP sv C 258 126 [l0, l1, l2, l3, l4] (.int x :: .ref a :: st) h = zpfd (h.1 a) 13 8 0 (.int x) (fun c => zrun zP sv C 258 129 [l0, l1, l2, l3, l4] st (zup h a c)) := zx_putf (x0 := 0) rfl rfl
theorem zs_258_129 : zrun zP sv C 258 129 [.val (.ref a), l1, l2, l3, l4] st h = zrun zP sv C 258 130 [.val (.ref a), l1, l2, l3, l4] (.ref a :: st) h := zx_go rfl rfl
theorem zs_258_130 : zrun zP sv C 258 130 [l0, l1, l2, l3, l4] (.ref a :: st) h = zfld (h.1 a) 13 10 (fun v => zrun zP sv C 258 133 [l0, l1, l2, l3, l4] (v :: st) h) := zx_getf rfl rfl
theorem zs_258_133 : zrun zP sv C 258 133 [l0, l1, l2, l3, .val (.int x)] st h = zrun zP sv C 258 135 [l0, l1, l2, l3, .val (.int x)] (.int x :: st) h := zx_go rfl rfl
theorem zs_258_135 : zrun zP sv C 258 135 [l0, l1, l2, l3, l4] (.int x :: .ref a :: st) h = zael (h.1 a) 20 x (fun v => zrun zP sv C 258 136 [l0, l1, l2, l3, l4] (v :: st) h) := zx_ald rfl rfl
theorem zs_258_136 : zrun zP sv C 258 136 [l0, l1, l2, l3, l4] (.int y :: .int x :: .ref a :: st) h = zaset (h.1 a) 20 x (.int y) (fun c => zrun zP sv C 258 137 [l0, l1, l2, l3, l4] st (zup h a c)) := zx_ast rfl rfl
theorem zs_258_137 : zrun zP sv C 258 137 [l0, l1, l2, l3, .val (.int x)] st h = zrun zP sv C 258 140 [l0, l1, l2, l3, .val (.int (x + (nI 1)))] st h := zx_ii rfl rfl rfl rfl rfl
theorem zs_258_140 : zrun zP sv C 258 140 [l0, l1, l2, l3, l4] st h = zrun zP sv C 258 89 [l0, l1, l2, l3, l4] st h := zx_go rfl rfl
theorem zs_258_143 : zrun zP sv C 258 143 [l0, l1, l2, .val (.int x), l4] st h = zrun zP sv C 258 144 [l0, l1, l2, .val (.int x), l4] (.int x :: st) h := zx_go rfl rfl
theorem zs_258_144 : zrun zP sv C 258 144 [l0, l1, l2, l3, l4] [.int x] h = some (.inl (some (.int x)), h) := zx_end rfl rfl
theorem zs_259_0 : zrun zP sv C 259 0 [.val (.ref a), l1, l2, l3] st h = zrun zP sv C 259 1 [.val (.ref a), l1, l2, l3] (.ref a :: st) h := zx_go rfl rfl
theorem zs_259_1 : zrun zP sv C 259 1 [l0, .val (.int x), l2, l3] st h = zrun zP sv C 259 2 [l0, .val (.int x), l2, l3] (.int x :: st) h := zx_go rfl rfl
theorem zs_259_2 : zrun zP sv C 259 2 [l0, l1, .val (.int x), l3] st h = zrun zP sv C 259 3 [l0, l1, .val (.int x), l3] (.int x :: st) h := zx_go rfl rfl
theorem zs_259_3 : zrun zP sv C 259 3 [l0, l1, l2, l3] [v2, v1, .ref b] h = zrc (h.1 b) 13 (zbk (C 258 [.ref b, v1, v2] h) (fun v h' => zrun zP sv C 259 6 [l0, l1, l2, l3] (v.toList ++ []) h') (fun E h' => some (.inr E, h'))) := zx_cv (x0 := 13) rfl rfl rfl rfl rfl ⟨Nat.le_of_ble_eq_true rfl, rfl⟩ (fun _ _ => rfl)
theorem zs_259_6 (hs : znw l3 = true) : zrun zP sv C 259 6 [l0, l1, l2, l3] (.int x :: st) h = zrun zP sv C 259 7 [l0, l1, l2, .val (.int x)] st h := zx_st hs rfl rfl rfl rfl rfl rfl
theorem zs_259_7 : zrun zP sv C 259 7 [l0, l1, l2, .val (.int x)] st h = zrun zP sv C 259 8 [l0, l1, l2, .val (.int x)] (.int x :: st) h := zx_go rfl rfl
theorem zs_259_8 : zrun zP sv C 259 8 [l0, l1, l2, l3] (.int x :: st) h = if 0 < x then zrun zP sv C 259 11 [l0, l1, l2, l3] st h else zrun zP sv C 259 24 [l0, l1, l2, l3] st h := (zx_if rfl rfl).trans zc5_if
theorem zs_259_11 : zrun zP sv C 259 11 [.val (.ref a), l1, l2, l3] st h = zrun zP sv C 259 12 [.val (.ref a), l1, l2, l3] (.ref a :: st) h := zx_go rfl rfl
theorem zs_259_12 : zrun zP sv C 259 12 [l0, l1, l2, l3] st h = zrun zP sv C 259 13 [l0, l1, l2, l3] (.int 0 :: st) h := zx_go rfl rfl
theorem zs_259_13 : zrun zP sv C 259 13 [l0, l1, l2, .val (.int x)] st h = zrun zP sv C 259 14 [l0, l1, l2, .val (.int x)] (.int x :: st) h := zx_go rfl rfl
theorem zs_259_14 : zrun zP sv C 259 14 [l0, l1, l2, l3] [v2, v1, .ref b] h = zrc (h.1 b) 13 (zbk (C 210 [.ref b, v1, v2] h) (fun v h' => zrun zP sv C 259 17 [l0, l1, l2, l3] (v.toList ++ []) h') (fun E h' => some (.inr E, h'))) := zx_cv (x0 := 13) rfl rfl rfl rfl rfl ⟨Nat.le_of_ble_eq_true rfl, rfl⟩ (fun _ _ => rfl)
theorem zs_259_17 : zrun zP sv C 259 17 [l0, l1, l2, l3] (.int x :: st) h = if x = 0 then zrun zP sv C 259 24 [l0, l1, l2, l3] st h else zrun zP sv C 259 20 [l0, l1, l2, l3] st h := (zx_if rfl rfl).trans zc0_if
theorem zs_259_20 : zrun zP sv C 259 20 [l0, l1, l2, l3] st h = zrun zP sv C 259 21 [l0, l1, l2, l3] (.int (nI 1) :: st) h := zx_go rfl rfl
theorem zs_259_21 : zrun zP sv C 259 21 [l0, l1, l2, l3] st h = zrun zP sv C 259 25 [l0, l1, l2, l3] st h := zx_go rfl rfl
theorem zs_259_24 : zrun zP sv C 259 24 [l0, l1, l2, l3] st h = zrun zP sv C 259 25 [l0, l1, l2, l3] (.int 0 :: st) h := zx_go rfl rfl
theorem zs_259_25 : zrun zP sv C 259 25 [l0, l1, l2, l3] [.int x] h = zgd (zty 5 (.int x)) (some (.inl (some (.int x)), h)) := zx_rt rfl
theorem zs_260_0 : zrun zP sv C 260 0 [l0, l1, l2, l3, l4] st h = zrun zP sv C 260 1 [l0, l1, l2, l3, l4] (.int (nI 1) :: st) h := zx_go rfl rfl
theorem zs_260_1 (hs : znw l3 = true) : zrun zP sv C 260 1 [l0, l1, l2, l3, l4] (.int x :: st) h = zrun zP sv C 260 2 [l0, l1, l2, .val (.int x), l4] st h := zx_st hs rfl rfl rfl rfl rfl rfl
theorem zs_260_2 : zrun zP sv C 260 2 [l0, l1, .val (.int x), l3, l4] st h = zrun zP sv C 260 3 [l0, l1, .val (.int x), l3, l4] (.int x :: st) h := zx_go rfl rfl
theorem zs_260_3 (hs : znw l4 = true) : zrun zP sv C 260 3 [l0, l1, l2, l3, l4] (.int x :: st) h = zrun zP sv C 260 5 [l0, l1, l2, l3, .val (.int x)] st h := zx_st hs rfl rfl rfl rfl rfl rfl
theorem zs_260_5 : zrun zP sv C 260 5 [l0, l1, l2, l3, .val (.int x)] st h = zrun zP sv C 260 7 [l0, l1, l2, l3, .val (.int x)] (.int x :: st) h := zx_go rfl rfl
theorem zs_260_7 : zrun zP sv C 260 7 [l0, .val (.int x), l2, l3, l4] st h = zrun zP sv C 260 8 [l0, .val (.int x), l2, l3, l4] (.int x :: st) h := zx_go rfl rfl
theorem zs_260_8 : zrun zP sv C 260 8 [l0, l1, l2, l3, l4] (.int y :: .int x :: st) h = if x < y then zrun zP sv C 260 11 [l0, l1, l2, l3, l4] st h else zrun zP sv C 260 37 [l0, l1, l2, l3, l4] st h := (zx_ic rfl rfl).trans zc3_if
theorem zs_260_11 : zrun zP sv C 260 11 [l0, l1, l2, .val (.int x), l4] st h = zrun zP sv C 260 12 [l0, l1, l2, .val (.int x), l4] (.int x :: st) h := zx_go rfl rfl
theorem zs_260_12 : zrun zP sv C 260 12 [l0, l1, l2, l3, l4] (.int x :: st) h = if x = 0 then zrun zP sv C 260 37 [l0, l1, l2, l3, l4] st h else zrun zP sv C 260 15 [l0, l1, l2, l3, l4] st h := (zx_if rfl rfl).trans zc0_if
theorem zs_260_15 : zrun zP sv C 260 15 [.val (.ref a), l1, l2, l3, l4] st h = zrun zP sv C 260 16 [.val (.ref a), l1, l2, l3, l4] (.ref a :: st) h := zx_go rfl rfl
theorem zs_260_16 : zrun zP sv C 260 16 [l0, l1, l2, l3, .val (.int x)] st h = zrun zP sv C 260 18 [l0, l1, l2, l3, .val (.int x)] (.int x :: st) h := zx_go rfl rfl
theorem zs_260_18 : zrun zP sv C 260 18 [l0, .val (.int x), l2, l3, l4] st h = zrun zP sv C 260 19 [l0, .val (.int x), l2, l3, l4] (.int x :: st) h := zx_go rfl rfl
theorem zs_260_19 : zrun zP sv C 260 19 [l0, l1, l2, l3, l4] [v2, v1, .ref b] h = zrc (h.1 b) 13 (zbk (C 210 [.ref b, v1, v2] h) (fun v h' => zrun zP sv C 260 22 [l0, l1, l2, l3, l4] (v.toList ++ []) h') (fun E h' => some (.inr E, h'))) := zx_cv (x0 := 13) rfl rfl rfl rfl rfl ⟨Nat.le_of_ble_eq_true rfl, rfl⟩ (fun _ _ => rfl)
theorem zs_260_22 : zrun zP sv C 260 22 [l0, l1, l2, l3, l4] (.int x :: st) h = if x = 0 then zrun zP sv C 260 25 [l0, l1, l2, l3, l4] st h else zrun zP sv C 260 29 [l0, l1, l2, l3, l4] st h := (zx_if rfl rfl).trans zc1_if
theorem zs_260_25 : zrun zP sv C 260 25 [l0, l1, l2, l3, l4] st h = zrun zP sv C 260 26 [l0, l1, l2, l3, l4] (.int (nI 1) :: st) h := zx_go rfl rfl
theorem zs_260_26 : zrun zP sv C 260 26 [l0, l1, l2, l3, l4] st h = zrun zP sv C 260 30 [l0, l1, l2, l3, l4] st h := zx_go rfl rfl
theorem zs_260_29 : zrun zP sv C 260 29 [l0, l1, l2, l3, l4] st h = zrun zP sv C 260 30 [l0, l1, l2, l3, l4] (.int 0 :: st) h := zx_go rfl rfl
theorem zs_260_30 (hs : znw l3 = true) : zrun zP sv C 260 30 [l0, l1, l2, l3, l4] (.int x :: st) h = zrun zP sv C 260 31 [l0, l1, l2, .val (.int x), l4] st h := zx_st hs rfl rfl rfl rfl rfl rfl
theorem zs_260_31 : zrun zP sv C 260 31 [l0, l1, l2, l3, .val (.int x)] st h = zrun zP sv C 260 34 [l0, l1, l2, l3, .val (.int (x + (nI 1)))] st h := zx_ii rfl rfl rfl rfl rfl
theorem zs_260_34 : zrun zP sv C 260 34 [l0, l1, l2, l3, l4] st h = zrun zP sv C 260 5 [l0, l1, l2, l3, l4] st h := zx_go rfl rfl
theorem zs_260_37 : zrun zP sv C 260 37 [l0, l1, l2, .val (.int x), l4] st h = zrun zP sv C 260 38 [l0, l1, l2, .val (.int x), l4] (.int x :: st) h := zx_go rfl rfl
theorem zs_260_38 : zrun zP sv C 260 38 [l0, l1, l2, l3, l4] [.int x] h = zgd (zty 5 (.int x)) (some (.inl (some (.int x)), h)) := zx_rt rfl
theorem zs_261_0 : zrun zP sv C 261 0 [.val (.ref a), l1, l2, l3] st h = zrun zP sv C 261 1 [.val (.ref a), l1, l2, l3] (.ref a :: st) h := zx_go rfl rfl
theorem zs_261_1 : zrun zP sv C 261 1 [l0, .val (.int x), l2, l3] st h = zrun zP sv C 261 2 [l0, .val (.int x), l2, l3] (.int x :: st) h := zx_go rfl rfl
theorem zs_261_2 : zrun zP sv C 261 2 [l0, l1, l2, l3] [v1, .ref b] h = zrc (h.1 b) 13 (zbk (C 252 [.ref b, v1] h) (fun v h' => zrun zP sv C 261 5 [l0, l1, l2, l3] (v.toList ++ []) h') (fun E h' => some (.inr E, h'))) := zx_cv (x0 := 13) rfl rfl rfl rfl rfl ⟨Nat.le_of_ble_eq_true rfl, rfl⟩ (fun _ _ => rfl)
theorem zs_261_5 : zrun zP sv C 261 5 [l0, l1, l2, l3] (.int x :: st) h = if x = 0 then zrun zP sv C 261 8 [l0, l1, l2, l3] st h else zrun zP sv C 261 10 [l0, l1, l2, l3] st h := (zx_if rfl rfl).trans zc1_if
theorem zs_261_8 : zrun zP sv C 261 8 [l0, l1, l2, l3] st h = zrun zP sv C 261 9 [l0, l1, l2, l3] (.int 0 :: st) h := zx_go rfl rfl
theorem zs_261_9 : zrun zP sv C 261 9 [l0, l1, l2, l3] [.int x] h = some (.inl (some (.int x)), h) := zx_end rfl rfl
theorem zs_261_10 : zrun zP sv C 261 10 [l0, l1, l2, l3] st h = zrun zP sv C 261 11 [l0, l1, l2, l3] (.int 0 :: st) h := zx_go rfl rfl
theorem zs_261_11 (hs : znw l2 = true) : zrun zP sv C 261 11 [l0, l1, l2, l3] (.int x :: st) h = zrun zP sv C 261 12 [l0, l1, .val (.int x), l3] st h := zx_st hs rfl rfl rfl rfl rfl rfl
theorem zs_261_12 : zrun zP sv C 261 12 [l0, l1, l2, l3] st h = zrun zP sv C 261 13 [l0, l1, l2, l3] (.int 0 :: st) h := zx_go rfl rfl
theorem zs_261_13 (hs : znw l3 = true) : zrun zP sv C 261 13 [l0, l1, l2, l3] (.int x :: st) h = zrun zP sv C 261 14 [l0, l1, l2, .val (.int x)] st h := zx_st hs rfl rfl rfl rfl rfl rfl
theorem zs_261_14 : zrun zP sv C 261 14 [l0, l1, l2, .val (.int x)] st h = zrun zP sv C 261 15 [l0, l1, l2, .val (.int x)] (.int x :: st) h := zx_go rfl rfl
theorem zs_261_15 : zrun zP sv C 261 15 [.val (.ref a), l1, l2, l3] st h = zrun zP sv C 261 16 [.val (.ref a), l1, l2, l3] (.ref a :: st) h := zx_go rfl rfl
theorem zs_261_16 : zrun zP sv C 261 16 [l0, l1, l2, l3] (.ref a :: st) h = zfld (h.1 a) 13 8 (fun v => zrun zP sv C 261 19 [l0, l1, l2, l3] (v :: st) h) := zx_getf rfl rfl
theorem zs_261_19 : zrun zP sv C 261 19 [l0, l1, l2, l3] (.int y :: .int x :: st) h = if x < y then zrun zP sv C 261 22 [l0, l1, l2, l3] st h else zrun zP sv C 261 40 [l0, l1, l2, l3] st h := (zx_ic rfl rfl).trans zc3_if
theorem zs_261_22 : zrun zP sv C 261 22 [.val (.ref a), l1, l2, l3] st h = zrun zP sv C 261 23 [.val (.ref a), l1, l2, l3] (.ref a :: st) h := zx_go rfl rfl
theorem zs_261_23 : zrun zP sv C 261 23 [l0, l1, l2, .val (.int x)] st h = zrun zP sv C 261 24 [l0, l1, l2, .val (.int x)] (.int x :: st) h := zx_go rfl rfl
theorem zs_261_24 : zrun zP sv C 261 24 [l0, l1, l2, l3] st h = zrun zP sv C 261 25 [l0, l1, l2, l3] (.int 0 :: st) h := zx_go rfl rfl
theorem zs_261_25 : zrun zP sv C 261 25 [l0, l1, l2, l3] [v2, v1, .ref b] h = zrc (h.1 b) 13 (zbk (C 260 [.ref b, v1, v2] h) (fun v h' => zrun zP sv C 261 28 [l0, l1, l2, l3] (v.toList ++ []) h') (fun E h' => some (.inr E, h'))) := zx_cv (x0 := 13) rfl rfl rfl rfl rfl ⟨Nat.le_of_ble_eq_true rfl, rfl⟩ (fun _ _ => rfl)
theorem zs_261_28 : zrun zP sv C 261 28 [l0, l1, l2, l3] (.int x :: st) h = if x = 0 then zrun zP sv C 261 34 [l0, l1, l2, l3] st h else zrun zP sv C 261 31 [l0, l1, l2, l3] st h := (zx_if rfl rfl).trans zc0_if
theorem zs_261_31 : zrun zP sv C 261 31 [l0, l1, .val (.int x), l3] st h = zrun zP sv C 261 34 [l0, l1, .val (.int (x + (nI 1))), l3] st h := zx_ii rfl rfl rfl rfl rfl
theorem zs_261_34 : zrun zP sv C 261 34 [l0, l1, l2, .val (.int x)] st h = zrun zP sv C 261 37 [l0, l1, l2, .val (.int (x + (nI 1)))] st h := zx_ii rfl rfl rfl rfl rfl
theorem zs_261_37 : zrun zP sv C 261 37 [l0, l1, l2, l3] st h = zrun zP sv C 261 14 [l0, l1, l2, l3] st h := zx_go rfl rfl
theorem zs_261_40 : zrun zP sv C 261 40 [l0, l1, .val (.int x), l3] st h = zrun zP sv C 261 41 [l0, l1, .val (.int x), l3] (.int x :: st) h := zx_go rfl rfl
theorem zs_261_41 : zrun zP sv C 261 41 [l0, l1, l2, l3] [.int x] h = some (.inl (some (.int x)), h) := zx_end rfl rfl
theorem zs_262_0 : zrun zP sv C 262 0 [.val (.ref a), l1] st h = zrun zP sv C 262 1 [.val (.ref a), l1] (.ref a :: st) h := zx_go rfl rfl
theorem zs_262_1 : zrun zP sv C 262 1 [l0, .val (.int x)] st h = zrun zP sv C 262 2 [l0, .val (.int x)] (.int x :: st) h := zx_go rfl rfl
theorem zs_262_2 : zrun zP sv C 262 2 [l0, l1] [v1, .ref b] h = zrc (h.1 b) 13 (zbk (C 261 [.ref b, v1] h) (fun v h' => zrun zP sv C 262 5 [l0, l1] (v.toList ++ []) h') (fun E h' => some (.inr E, h'))) := zx_cv (x0 := 13) rfl rfl rfl rfl rfl ⟨Nat.le_of_ble_eq_true rfl, rfl⟩ (fun _ _ => rfl)
theorem zs_262_5 : zrun zP sv C 262 5 [l0, l1] [.int x] h = some (.inl (some (.int x)), h) := zx_end rfl rfl
theorem zs_263_0 : zrun zP sv C 263 0 [.val (.ref a), l1, l2, l3, l4, l5, l6, l7] st h = zrun zP sv C 263 1 [.val (.ref a), l1, l2, l3, l4, l5, l6, l7] (.ref a :: st) h := zx_go rfl rfl
theorem zs_263_1 : zrun zP sv C 263 1 [l0, .val (.int x), l2, l3, l4, l5, l6, l7] st h = zrun zP sv C 263 2 [l0, .val (.int x), l2, l3, l4, l5, l6, l7] (.int x :: st) h := zx_go rfl rfl
theorem zs_263_2 : zrun zP sv C 263 2 [l0, l1, .val (.int x), l3, l4, l5, l6, l7] st h = zrun zP sv C 263 3 [l0, l1, .val (.int x), l3, l4, l5, l6, l7] (.int x :: st) h := zx_go rfl rfl
theorem zs_263_3 : zrun zP sv C 263 3 [l0, l1, l2, l3, l4, l5, l6, l7] [v2, v1, .ref b] h = zrc (h.1 b) 13 (zbk (C 258 [.ref b, v1, v2] h) (fun v h' => zrun zP sv C 263 6 [l0, l1, l2, l3, l4, l5, l6, l7] (v.toList ++ []) h') (fun E h' => some (.inr E, h'))) := zx_cv (x0 := 13) rfl rfl rfl rfl rfl ⟨Nat.le_of_ble_eq_true rfl, rfl⟩ (fun _ _ => rfl)
theorem zs_263_6 (hs : znw l3 = true) : zrun zP sv C 263 6 [l0, l1, l2, l3, l4, l5, l6, l7] (.int x :: st) h = zrun zP sv C 263 7 [l0, l1, l2, .val (.int x), l4, l5, l6, l7] st h := zx_st hs rfl rfl rfl rfl rfl rfl
theorem zs_263_7 : zrun zP sv C 263 7 [l0, l1, l2, l3, l4, l5, l6, l7] st h = zrun zP sv C 263 8 [l0, l1, l2, l3, l4, l5, l6, l7] (.int 0 :: st) h := zx_go rfl rfl
theorem zs_263_8 (hs : znw l4 = true) : zrun zP sv C 263 8 [l0, l1, l2, l3, l4, l5, l6, l7] (.int x :: st) h = zrun zP sv C 263 10 [l0, l1, l2, l3, .val (.int x), l5, l6, l7] st h := zx_st hs rfl rfl rfl rfl rfl rfl
theorem zs_263_10 : zrun zP sv C 263 10 [l0, l1, l2, l3, l4, l5, l6, l7] st h = zrun zP sv C 263 11 [l0, l1, l2, l3, l4, l5, l6, l7] (.int 0 :: st) h := zx_go rfl rfl
theorem zs_263_11 (hs : znw l5 = true) : zrun zP sv C 263 11 [l0, l1, l2, l3, l4, l5, l6, l7] (.int x :: st) h = zrun zP sv C 263 13 [l0, l1, l2, l3, l4, .val (.int x), l6, l7] st h := zx_st hs rfl rfl rfl rfl rfl rfl
theorem zs_263_13 : zrun zP sv C 263 13 [l0, l1, l2, l3, l4, .val (.int x), l6, l7] st h = zrun zP sv C 263 15 [l0, l1, l2, l3, l4, .val (.int x), l6, l7] (.int x :: st) h := zx_go rfl rfl
theorem zs_263_15 : zrun zP sv C 263 15 [l0, l1, l2, .val (.int x), l4, l5, l6, l7] st h = zrun zP sv C 263 16 [l0, l1, l2, .val (.int x), l4, l5, l6, l7] (.int x :: st) h := zx_go rfl rfl
theorem zs_263_16 : zrun zP sv C 263 16 [l0, l1, l2, l3, l4, l5, l6, l7] (.int y :: .int x :: st) h = if x < y then zrun zP sv C 263 19 [l0, l1, l2, l3, l4, l5, l6, l7] st h else zrun zP sv C 263 79 [l0, l1, l2, l3, l4, l5, l6, l7] st h := (zx_ic rfl rfl).trans zc3_if
theorem zs_263_19 : zrun zP sv C 263 19 [l0, l1, l2, l3, l4, l5, l6, l7] st h = zrun zP sv C 263 20 [l0, l1, l2, l3, l4, l5, l6, l7] (.int 0 :: st) h := zx_go rfl rfl
theorem zs_263_20 (hs : znw l6 = true) : zrun zP sv C 263 20 [l0, l1, l2, l3, l4, l5, l6, l7] (.int x :: st) h = zrun zP sv C 263 22 [l0, l1, l2, l3, l4, l5, .val (.int x), l7] st h := zx_st hs rfl rfl rfl rfl rfl rfl
theorem zs_263_22 : zrun zP sv C 263 22 [l0, l1, l2, .val (.int x), l4, l5, l6, l7] st h = zrun zP sv C 263 23 [l0, l1, l2, .val (.int x), l4, l5, l6, l7] (.int x :: st) h := zx_go rfl rfl
theorem zs_263_23 (hs : znw l7 = true) : zrun zP sv C 263 23 [l0, l1, l2, l3, l4, l5, l6, l7] (.int x :: st) h = zrun zP sv C 263 25 [l0, l1, l2, l3, l4, l5, l6, .val (.int x)] st h := zx_st hs rfl rfl rfl rfl rfl rfl
theorem zs_263_25 : zrun zP sv C 263 25 [l0, l1, l2, l3, l4, l5, l6, .val (.int x)] st h = zrun zP sv C 263 27 [l0, l1, l2, l3, l4, l5, l6, .val (.int x)] (.int x :: st) h := zx_go rfl rfl
theorem zs_263_27 : zrun zP sv C 263 27 [.val (.ref a), l1, l2, l3, l4, l5, l6, l7] st h = zrun zP sv C 263 28 [.val (.ref a), l1, l2, l3, l4, l5, l6, l7] (.ref a :: st) h := zx_go rfl rfl
theorem zs_263_28 : zrun zP sv C 263 28 [l0, l1, l2, l3, l4, l5, l6, l7] (.ref a :: st) h = zfld (h.1 a) 13 8 (fun v => zrun zP sv C 263 31 [l0, l1, l2, l3, l4, l5, l6, l7] (v :: st) h) := zx_getf rfl rfl
theorem zs_263_31 : zrun zP sv C 263 31 [l0, l1, l2, l3, l4, l5, l6, l7] (.int y :: .int x :: st) h = if x < y then zrun zP sv C 263 34 [l0, l1, l2, l3, l4, l5, l6, l7] st h else zrun zP sv C 263 55 [l0, l1, l2, l3, l4, l5, l6, l7] st h := (zx_ic rfl rfl).trans zc3_if
theorem zs_263_34 : zrun zP sv C 263 34 [l0, l1, l2, l3, l4, l5, .val (.int x), l7] st h = zrun zP sv C 263 36 [l0, l1, l2, l3, l4, l5, .val (.int x), l7] (.int x :: st) h := zx_go rfl rfl
theorem zs_263_36 : zrun zP sv C 263 36 [l0, l1, l2, l3, l4, l5, l6, l7] (.int x :: st) h = if x = 0 then zrun zP sv C 263 39 [l0, l1, l2, l3, l4, l5, l6, l7] st h else zrun zP sv C 263 55 [l0, l1, l2, l3, l4, l5, l6, l7] st h := (zx_if rfl rfl).trans zc1_if
theorem zs_263_39 : zrun zP sv C 263 39 [.val (.ref a), l1, l2, l3, l4, l5, l6, l7] st h = zrun zP sv C 263 40 [.val (.ref a), l1, l2, l3, l4, l5, l6, l7] (.ref a :: st) h := zx_go rfl rfl
theorem zs_263_40 : zrun zP sv C 263 40 [l0, l1, l2, l3, l4, .val (.int x), l6, l7] st h = zrun zP sv C 263 42 [l0, l1, l2, l3, l4, .val (.int x), l6, l7] (.int x :: st) h := zx_go rfl rfl
theorem zs_263_42 : zrun zP sv C 263 42 [l0, l1, l2, l3, l4, l5, l6, .val (.int x)] st h = zrun zP sv C 263 44 [l0, l1, l2, l3, l4, l5, l6, .val (.int x)] (.int x :: st) h := zx_go rfl rfl
theorem zs_263_44 : zrun zP sv C 263 44 [l0, l1, l2, l3, l4, l5, l6, l7] [v2, v1, .ref b] h = zrc (h.1 b) 13 (zbk (C 210 [.ref b, v1, v2] h) (fun v h' => zrun zP sv C 263 47 [l0, l1, l2, l3, l4, l5, l6, l7] (v.toList ++ []) h') (fun E h' => some (.inr E, h'))) := zx_cv (x0 := 13) rfl rfl rfl rfl rfl ⟨Nat.le_of_ble_eq_true rfl, rfl⟩ (fun _ _ => rfl)
theorem zs_263_47 (hs : znw l6 = true) : zrun zP sv C 263 47 [l0, l1, l2, l3, l4, l5, l6, l7] (.int x :: st) h = zrun zP sv C 263 49 [l0, l1, l2, l3, l4, l5, .val (.int x), l7] st h := zx_st hs rfl rfl rfl rfl rfl rfl
theorem zs_263_49 : zrun zP sv C 263 49 [l0, l1, l2, l3, l4, l5, l6, .val (.int x)] st h = zrun zP sv C 263 52 [l0, l1, l2, l3, l4, l5, l6, .val (.int (x + (nI 1)))] st h := zx_ii rfl rfl rfl rfl rfl
theorem zs_263_52 : zrun zP sv C 263 52 [l0, l1, l2, l3, l4, l5, l6, l7] st h = zrun zP sv C 263 25 [l0, l1, l2, l3, l4, l5, l6, l7] st h := zx_go rfl rfl
theorem zs_263_55 : zrun zP sv C 263 55 [l0, l1, l2, l3, l4, l5, .val (.int x), l7] st h = zrun zP sv C 263 57 [l0, l1, l2, l3, l4, l5, .val (.int x), l7] (.int x :: st) h := zx_go rfl rfl
theorem zs_263_57 : zrun zP sv C 263 57 [l0, l1, l2, l3, l4, l5, l6, l7] (.int x :: st) h = if x = 0 then zrun zP sv C 263 73 [l0, l1, l2, l3, l4, l5, l6, l7] st h else zrun zP sv C 263 60 [l0, l1, l2, l3, l4, l5, l6, l7] st h := (zx_if rfl rfl).trans zc0_if
theorem zs_263_60 : zrun zP sv C 263 60 [.val (.ref a), l1, l2, l3, l4, l5, l6, l7] st h = zrun zP sv C 263 61 [.val (.ref a), l1, l2, l3, l4, l5, l6, l7] (.ref a :: st) h := zx_go rfl rfl
theorem zs_263_61 : zrun zP sv C 263 61 [l0, l1, l2, l3, l4, .val (.int x), l6, l7] st h = zrun zP sv C 263 63 [l0, l1, l2, l3, l4, .val (.int x), l6, l7] (.int x :: st) h := zx_go rfl rfl
theorem zs_263_63 : zrun zP sv C 263 63 [l0, l1, l2, l3, l4, l5, l6, l7] st h = zrun zP sv C 263 64 [l0, l1, l2, l3, l4, l5, l6, l7] (.int 0 :: st) h := zx_go rfl rfl
theorem zs_263_64 : zrun zP sv C 263 64 [l0, l1, l2, l3, l4, l5, l6, l7] [v2, v1, .ref b] h = zrc (h.1 b) 13 (zbk (C 260 [.ref b, v1, v2] h) (fun v h' => zrun zP sv C 263 67 [l0, l1, l2, l3, l4, l5, l6, l7] (v.toList ++ []) h') (fun E h' => some (.inr E, h'))) := zx_cv (x0 := 13) rfl rfl rfl rfl rfl ⟨Nat.le_of_ble_eq_true rfl, rfl⟩ (fun _ _ => rfl)
theorem zs_263_67 : zrun zP sv C 263 67 [l0, l1, l2, l3, l4, l5, l6, l7] (.int x :: st) h = if x = 0 then zrun zP sv C 263 73 [l0, l1, l2, l3, l4, l5, l6, l7] st h else zrun zP sv C 263 70 [l0, l1, l2, l3, l4, l5, l6, l7] st h := (zx_if rfl rfl).trans zc0_if
theorem zs_263_70 : zrun zP sv C 263 70 [l0, l1, l2, l3, .val (.int x), l5, l6, l7] st h = zrun zP sv C 263 73 [l0, l1, l2, l3, .val (.int (x + (nI 1))), l5, l6, l7] st h := zx_ii rfl rfl rfl rfl rfl
theorem zs_263_73 : zrun zP sv C 263 73 [l0, l1, l2, l3, l4, .val (.int x), l6, l7] st h = zrun zP sv C 263 76 [l0, l1, l2, l3, l4, .val (.int (x + (nI 1))), l6, l7] st h := zx_ii rfl rfl rfl rfl rfl
theorem zs_263_76 : zrun zP sv C 263 76 [l0, l1, l2, l3, l4, l5, l6, l7] st h = zrun zP sv C 263 13 [l0, l1, l2, l3, l4, l5, l6, l7] st h := zx_go rfl rfl
theorem zs_263_79 : zrun zP sv C 263 79 [l0, l1, l2, l3, .val (.int x), l5, l6, l7] st h = zrun zP sv C 263 81 [l0, l1, l2, l3, .val (.int x), l5, l6, l7] (.int x :: st) h := zx_go rfl rfl
theorem zs_263_81 : zrun zP sv C 263 81 [l0, l1, l2, l3, l4, l5, l6, l7] [.int x] h = some (.inl (some (.int x)), h) := zx_end rfl rfl
theorem zs_264_0 : zrun zP sv C 264 0 [.val (.ref a), l1] st h = zrun zP sv C 264 1 [.val (.ref a), l1] (.ref a :: st) h := zx_go rfl rfl
theorem zs_264_1 : zrun zP sv C 264 1 [l0, .val (.int x)] st h = zrun zP sv C 264 2 [l0, .val (.int x)] (.int x :: st) h := zx_go rfl rfl
theorem zs_264_2 : zrun zP sv C 264 2 [l0, l1] [v1, .ref b] h = zrc (h.1 b) 13 (zbk (C 252 [.ref b, v1] h) (fun v h' => zrun zP sv C 264 5 [l0, l1] (v.toList ++ []) h') (fun E h' => some (.inr E, h'))) := zx_cv (x0 := 13) rfl rfl rfl rfl rfl ⟨Nat.le_of_ble_eq_true rfl, rfl⟩ (fun _ _ => rfl)
theorem zs_264_5 : zrun zP sv C 264 5 [l0, l1] (.int x :: st) h = if x = 0 then zrun zP sv C 264 16 [l0, l1] st h else zrun zP sv C 264 8 [l0, l1] st h := (zx_if rfl rfl).trans zc0_if
theorem zs_264_8 : zrun zP sv C 264 8 [.val (.ref a), l1] st h = zrun zP sv C 264 9 [.val (.ref a), l1] (.ref a :: st) h := zx_go rfl rfl
theorem zs_264_9 : zrun zP sv C 264 9 [l0, l1] st h = zrun zP sv C 264 10 [l0, l1] (.int 0 :: st) h := zx_go rfl rfl
theorem zs_264_10 : zrun zP sv C 264 10 [l0, l1] [v1, .ref b] h = zrc (h.1 b) 13 (zbk (C 213 [.ref b, v1] h) (fun v h' => zrun zP sv C 264 13 [l0, l1] (v.toList ++ []) h') (fun E h' => some (.inr E, h'))) := zx_cv (x0 := 13) rfl rfl rfl rfl rfl ⟨Nat.le_of_ble_eq_true rfl, rfl⟩ (fun _ _ => rfl)
theorem zs_264_13 : zrun zP sv C 264 13 [l0, l1] st h = zrun zP sv C 264 17 [l0, l1] st h := zx_go rfl rfl
theorem zs_264_16 : zrun zP sv C 264 16 [l0, l1] st h = zrun zP sv C 264 17 [l0, l1] (.int 0 :: st) h := zx_go rfl rfl
theorem zs_264_17 : zrun zP sv C 264 17 [l0, l1] [.int x] h = some (.inl (some (.int x)), h) := zx_end rfl rfl
theorem zs_265_0 : zrun zP sv C 265 0 [.val (.ref a), l1] st h = zrun zP sv C 265 1 [.val (.ref a), l1] (.ref a :: st) h := zx_go rfl rfl
theorem zs_265_1 : zrun zP sv C 265 1 [l0, .val (.int x)] st h = zrun zP sv C 265 2 [l0, .val (.int x)] (.int x :: st) h := zx_go rfl rfl
theorem zs_265_2 : zrun zP sv C 265 2 [l0, l1] [v1, .ref b] h = zrc (h.1 b) 13 (zbk (C 264 [.ref b, v1] h) (fun v h' => zrun zP sv C 265 5 [l0, l1] (v.toList ++ []) h') (fun E h' => some (.inr E, h'))) := zx_cv (x0 := 13) rfl rfl rfl rfl rfl ⟨Nat.le_of_ble_eq_true rfl, rfl⟩ (fun _ _ => rfl)
theorem zs_265_5 : zrun zP sv C 265 5 [l0, l1] [.int x] h = some (.inl (some (.int x)), h) := zx_end rfl rfl
theorem zs_266_0 : zrun zP sv C 266 0 [.val (.ref a), l1, l2] st h = zrun zP sv C 266 1 [.val (.ref a), l1, l2] (.ref a :: st) h := zx_go rfl rfl
theorem zs_266_1 : zrun zP sv C 266 1 [l0, .val (.int x), l2] st h = zrun zP sv C 266 2 [l0, .val (.int x), l2] (.int x :: st) h := zx_go rfl rfl
theorem zs_266_2 : zrun zP sv C 266 2 [l0, l1, l2] [v1, .ref b] h = zrc (h.1 b) 13 (zbk (C 252 [.ref b, v1] h) (fun v h' => zrun zP sv C 266 5 [l0, l1, l2] (v.toList ++ []) h') (fun E h' => some (.inr E, h'))) := zx_cv (x0 := 13) rfl rfl rfl rfl rfl ⟨Nat.le_of_ble_eq_true rfl, rfl⟩ (fun _ _ => rfl)
theorem zs_266_5 : zrun zP sv C 266 5 [l0, l1, l2] (.int x :: st) h = if x = 0 then zrun zP sv C 266 8 [l0, l1, l2] st h else zrun zP sv C 266 10 [l0, l1, l2] st h := (zx_if rfl rfl).trans zc1_if
theorem zs_266_8 : zrun zP sv C 266 8 [l0, l1, l2] st h = zrun zP sv C 266 9 [l0, l1, l2] (.int 0 :: st) h := zx_go rfl rfl
theorem zs_266_9 : zrun zP sv C 266 9 [l0, l1, l2] [.int x] h = some (.inl (some (.int x)), h) := zx_end rfl rfl
theorem zs_266_10 : zrun zP sv C 266 10 [l0, l1, .val (.int x)] st h = zrun zP sv C 266 11 [l0, l1, .val (.int x)] (.int x :: st) h := zx_go rfl rfl
theorem zs_266_11 : zrun zP sv C 266 11 [l0, l1, l2] [v0] h = zbk (C 204 [v0] h) (fun v h' => zrun zP sv C 266 14 [l0, l1, l2] (v.toList ++ []) h') (fun E h' => some (.inr E, h')) := zx_cs rfl rfl rfl rfl ⟨Nat.le_of_ble_eq_true rfl, rfl⟩ (fun _ _ => rfl)
theorem zs_266_14 : zrun zP sv C 266 14 [l0, l1, l2] (.int x :: st) h = if x = 0 then zrun zP sv C 266 28 [l0, l1, l2] st h else zrun zP sv C 266 17 [l0, l1, l2] st h := (zx_if rfl rfl).trans zc0_if
theorem zs_266_17 : zrun zP sv C 266 17 [.val (.ref a), l1, l2] st h = zrun zP sv C 266 18 [.val (.ref a), l1, l2] (.ref a :: st) h := zx_go rfl rfl
theorem zs_266_18 : zrun zP sv C 266 18 [l0, l1, .val (.int x)] st h = zrun zP sv C 266 19 [l0, l1, .val (.int x)] (.int x :: st) h := zx_go rfl rfl
theorem zs_266_19 : zrun zP sv C 266 19 [l0, l1, l2] st h = zrun zP sv C 266 21 [l0, l1, l2] (.int (nI 97) :: st) h := zx_go rfl rfl
theorem zs_266_21 : zrun zP sv C 266 21 [l0, l1, l2] (.int y :: .int x :: st) h = zrun zP sv C 266 22 [l0, l1, l2] (.int (x - y) :: st) h := zx_go rfl rfl
theorem zs_266_22 : zrun zP sv C 266 22 [l0, l1, l2] [v1, .ref b] h = zrc (h.1 b) 13 (zbk (C 214 [.ref b, v1] h) (fun v h' => zrun zP sv C 266 25 [l0, l1, l2] (v.toList ++ []) h') (fun E h' => some (.inr E, h'))) := zx_cv (x0 := 13) rfl rfl rfl rfl rfl ⟨Nat.le_of_ble_eq_true rfl, rfl⟩ (fun _ _ => rfl)
theorem zs_266_25 : zrun zP sv C 266 25 [l0, l1, l2] st h = zrun zP sv C 266 33 [l0, l1, l2] st h := zx_go rfl rfl
theorem zs_266_28 : zrun zP sv C 266 28 [.val (.ref a), l1, l2] st h = zrun zP sv C 266 29 [.val (.ref a), l1, l2] (.ref a :: st) h := zx_go rfl rfl
theorem zs_266_29 : zrun zP sv C 266 29 [l0, l1, l2] st h = zrun zP sv C 266 30 [l0, l1, l2] (.int (nI 2) :: st) h := zx_go rfl rfl
theorem zs_266_30 : zrun zP sv C 266 30 [l0, l1, l2] [v1, .ref b] h = zrc (h.1 b) 13 (zbk (C 198 [.ref b, v1] h) (fun v h' => zrun zP sv C 266 33 [l0, l1, l2] (v.toList ++ []) h') (fun E h' => some (.inr E, h'))) := zx_cv (x0 := 13) rfl rfl rfl rfl rfl ⟨Nat.le_of_ble_eq_true rfl, rfl⟩ (fun _ _ => rfl)
theorem zs_266_33 : zrun zP sv C 266 33 [l0, l1, l2] [.int x] h = some (.inl (some (.int x)), h) := zx_end rfl rfl
theorem zs_267_0 : zrun zP sv C 267 0 [.val (.ref a), l1, l2] st h = zrun zP sv C 267 1 [.val (.ref a), l1, l2] (.ref a :: st) h := zx_go rfl rfl
theorem zs_267_1 : zrun zP sv C 267 1 [l0, .val (.int x), l2] st h = zrun zP sv C 267 2 [l0, .val (.int x), l2] (.int x :: st) h := zx_go rfl rfl
theorem zs_267_2 : zrun zP sv C 267 2 [l0, l1, .val (.int x)] st h = zrun zP sv C 267 3 [l0, l1, .val (.int x)] (.int x :: st) h := zx_go rfl rfl
theorem zs_267_3 : zrun zP sv C 267 3 [l0, l1, l2] [v2, v1, .ref b] h = zrc (h.1 b) 13 (zbk (C 266 [.ref b, v1, v2] h) (fun v h' => zrun zP sv C 267 6 [l0, l1, l2] (v.toList ++ []) h') (fun E h' => some (.inr E, h'))) := zx_cv (x0 := 13) rfl rfl rfl rfl rfl ⟨Nat.le_of_ble_eq_true rfl, rfl⟩ (fun _ _ => rfl)
theorem zs_267_6 : zrun zP sv C 267 6 [l0, l1, l2] [.int x] h = some (.inl (some (.int x)), h) := zx_end rfl rfl
theorem zs_268_0 : zrun zP sv C 268 0 [.val (.ref a), l1] st h = zrun zP sv C 268 1 [.val (.ref a), l1] (.ref a :: st) h := zx_go rfl rfl
theorem zs_268_1 : zrun zP sv C 268 1 [l0, .val (.int x)] st h = zrun zP sv C 268 2 [l0, .val (.int x)] (.int x :: st) h := zx_go rfl rfl
theorem zs_268_2 : zrun zP sv C 268 2 [l0, l1] [v1, .ref b] h = zrc (h.1 b) 13 (zbk (C 252 [.ref b, v1] h) (fun v h' => zrun zP sv C 268 5 [l0, l1] (v.toList ++ []) h') (fun E h' => some (.inr E, h'))) := zx_cv (x0 := 13) rfl rfl rfl rfl rfl ⟨Nat.le_of_ble_eq_true rfl, rfl⟩ (fun _ _ => rfl)
theorem zs_268_5 : zrun zP sv C 268 5 [l0, l1] (.int x :: st) h = if x = 0 then zrun zP sv C 268 16 [l0, l1] st h else zrun zP sv C 268 8 [l0, l1] st h := (zx_if rfl rfl).trans zc0_if
theorem zs_268_8 : zrun zP sv C 268 8 [.val (.ref a), l1] st h = zrun zP sv C 268 9 [.val (.ref a), l1] (.ref a :: st) h := zx_go rfl rfl
theorem zs_268_9 : zrun zP sv C 268 9 [l0, l1] st h = zrun zP sv C 268 10 [l0, l1] (.int (nI 3) :: st) h := zx_go rfl rfl
theorem zs_268_10 : zrun zP sv C 268 10 [l0, l1] [v1, .ref b] h = zrc (h.1 b) 13 (zbk (C 213 [.ref b, v1] h) (fun v h' => zrun zP sv C 268 13 [l0, l1] (v.toList ++ []) h') (fun E h' => some (.inr E, h'))) := zx_cv (x0 := 13) rfl rfl rfl rfl rfl ⟨Nat.le_of_ble_eq_true rfl, rfl⟩ (fun _ _ => rfl)
theorem zs_268_13 : zrun zP sv C 268 13 [l0, l1] st h = zrun zP sv C 268 17 [l0, l1] st h := zx_go rfl rfl
theorem zs_268_16 : zrun zP sv C 268 16 [l0, l1] st h = zrun zP sv C 268 17 [l0, l1] (.int 0 :: st) h := zx_go rfl rfl
theorem zs_268_17 : zrun zP sv C 268 17 [l0, l1] [.int x] h = some (.inl (some (.int x)), h) := zx_end rfl rfl
theorem zs_269_0 : zrun zP sv C 269 0 [.val (.ref a), l1] st h = zrun zP sv C 269 1 [.val (.ref a), l1] (.ref a :: st) h := zx_go rfl rfl
theorem zs_269_1 : zrun zP sv C 269 1 [l0, .val (.int x)] st h = zrun zP sv C 269 2 [l0, .val (.int x)] (.int x :: st) h := zx_go rfl rfl
theorem zs_269_2 : zrun zP sv C 269 2 [l0, l1] [v1, .ref b] h = zrc (h.1 b) 13 (zbk (C 268 [.ref b, v1] h) (fun v h' => zrun zP sv C 269 5 [l0, l1] (v.toList ++ []) h') (fun E h' => some (.inr E, h'))) := zx_cv (x0 := 13) rfl rfl rfl rfl rfl ⟨Nat.le_of_ble_eq_true rfl, rfl⟩ (fun _ _ => rfl)
theorem zs_269_5 : zrun zP sv C 269 5 [l0, l1] [.int x] h = some (.inl (some (.int x)), h) := zx_end rfl rfl
theorem zs_270_0 : zrun zP sv C 270 0 [.val (.ref a), l1, l2, l3, l4] st h = zrun zP sv C 270 1 [.val (.ref a), l1, l2, l3, l4] (.ref a :: st) h := zx_go rfl rfl
theorem zs_270_1 : zrun zP sv C 270 1 [l0, l1, l2, l3, l4] (.ref a :: st) h = zfld (h.1 a) 13 15 (fun v => zrun zP sv C 270 4 [l0, l1, l2, l3, l4] (v :: st) h) := zx_getf rfl rfl
theorem zs_270_4 : zrun zP sv C 270 4 [.val (.ref a), l1, l2, l3, l4] st h = zrun zP sv C 270 5 [.val (.ref a), l1, l2, l3, l4] (.ref a :: st) h := zx_go rfl rfl
theorem zs_270_5 : zrun zP sv C 270 5 [l0, l1, l2, l3, l4] (.ref a :: st) h = zfld (h.1 a) 13 19 (fun v => zrun zP sv C 270 8 [l0, l1, l2, l3, l4] (v :: st) h) := zx_getf rfl rfl
theorem zs_270_8 : zrun zP sv C 270 8 [l0, .val (.int x), l2, l3, l4] st h = zrun zP sv C 270 9 [l0, .val (.int x), l2, l3, l4] (.int x :: st) h := zx_go rfl rfl
theorem zs_270_9 : zrun zP sv C 270 9 [l0, l1, l2, l3, l4] (.int y :: .int x :: .ref a :: st) h = zaset (h.1 a) 21 x (.int y) (fun c => zrun zP sv C 270 10 [l0, l1, l2, l3, l4] st (zup h a c)) := zx_ast rfl rfl
theorem zs_270_10 : zrun zP sv C 270 10 [.val (.ref a), l1, l2, l3, l4] st h = zrun zP sv C 270 11 [.val (.ref a), l1, l2, l3, l4] (.ref a :: st) h := zx_go rfl rfl
theorem zs_270_11 : zrun zP sv C 270 11 [l0, l1, l2, l3, l4] (.ref a :: st) h = zfld (h.1 a) 13 16 (fun v => zrun zP sv C 270 14 [l0, l1, l2, l3, l4] (v :: st) h) := zx_getf rfl rfl
theorem zs_270_14 : zrun zP sv C 270 14 [.val (.ref a), l1, l2, l3, l4] st h = zrun zP sv C 270 15 [.val (.ref a), l1, l2, l3, l4] (.ref a :: st) h := zx_go rfl rfl
theorem zs_270_15 : zrun zP sv C 270 15 [l0, l1, l2, l3, l4] (.ref a :: st) h = zfld (h.1 a) 13 19 (fun v => zrun zP sv C 270 18 [l0, l1, l2, l3, l4] (v :: st) h) := zx_getf rfl rfl
theorem zs_270_18 : zrun zP sv C 270 18 [l0, l1, .val (.int x), l3, l4] st h = zrun zP sv C 270 19 [l0, l1, .val (.int x), l3, l4] (.int x :: st) h := zx_go rfl rfl
theorem zs_270_19 : zrun zP sv C 270 19 [l0, l1, l2, l3, l4] (.int y :: .int x :: .ref a :: st) h = zaset (h.1 a) 20 x (.int y) (fun c => zrun zP sv C 270 20 [l0, l1, l2, l3, l4] st (zup h a c)) := zx_ast rfl rfl
theorem zs_270_20 : zrun zP sv C 270 20 [.val (.ref a), l1, l2, l3, l4] st h = zrun zP sv C 270 21 [.val (.ref a), l1, l2, l3, l4] (.ref a :: st) h := zx_go rfl rfl
theorem zs_270_21 : zrun zP sv C 270 21 [l0, l1, l2, l3, l4] (.ref a :: st) h = zfld (h.1 a) 13 17 (fun v => zrun zP sv C 270 24 [l0, l1, l2, l3, l4] (v :: st) h) := zx_getf rfl rfl
theorem zs_270_24 : zrun zP sv C 270 24 [.val (.ref a), l1, l2, l3, l4] st h = zrun zP sv C 270 25 [.val (.ref a), l1, l2, l3, l4] (.ref a :: st) h := zx_go rfl rfl
theorem zs_270_25 : zrun zP sv C 270 25 [l0, l1, l2, l3, l4] (.ref a :: st) h = zfld (h.1 a) 13 19 (fun v => zrun zP sv C 270 28 [l0, l1, l2, l3, l4] (v :: st) h) := zx_getf rfl rfl
theorem zs_270_28 : zrun zP sv C 270 28 [l0, l1, l2, .val (.int x), l4] st h = zrun zP sv C 270 29 [l0, l1, l2, .val (.int x), l4] (.int x :: st) h := zx_go rfl rfl
theorem zs_270_29 : zrun zP sv C 270 29 [l0, l1, l2, l3, l4] (.int y :: .int x :: .ref a :: st) h = zaset (h.1 a) 20 x (.int y) (fun c => zrun zP sv C 270 30 [l0, l1, l2, l3, l4] st (zup h a c)) := zx_ast rfl rfl
theorem zs_270_30 : zrun zP sv C 270 30 [.val (.ref a), l1, l2, l3, l4] st h = zrun zP sv C 270 31 [.val (.ref a), l1, l2, l3, l4] (.ref a :: st) h := zx_go rfl rfl
theorem zs_270_31 : zrun zP sv C 270 31 [l0, l1, l2, l3, l4] (.ref a :: st) h = zfld (h.1 a) 13 18 (fun v => zrun zP sv C 270 34 [l0, l1, l2, l3, l4] (v :: st) h) := zx_getf rfl rfl
theorem zs_270_34 : zrun zP sv C 270 34 [.val (.ref a), l1, l2, l3, l4] st h = zrun zP sv C 270 35 [.val (.ref a), l1, l2, l3, l4] (.ref a :: st) h := zx_go rfl rfl
theorem zs_270_35 : zrun zP sv C 270 35 [l0, l1, l2, l3, l4] (.ref a :: st) h = zrun zP sv C 270 36 [l0, l1, l2, l3, l4] (.ref a :: .ref a :: st) h := zx_go rfl rfl
theorem zs_270_36 : zrun zP sv C 270 36 [l0, l1, l2, l3, l4] (.ref a :: st) h = zfld (h.1 a) 13 19 (fun v => zrun zP sv C 270 39 [l0, l1, l2, l3, l4] (v :: st) h) := zx_getf rfl rfl
theorem zs_270_39 : zrun zP sv C 270 39 [l0, l1, l2, l3, l4] (.int x :: .ref b :: st) h = zrun zP sv C 270 40 [l0, l1, l2, l3, l4] (.int x :: .ref b :: .int x :: st) h := zx_go rfl rfl
theorem zs_270_40 : zrun zP sv C 270 40 [l0, l1, l2, l3, l4] st h = zrun zP sv C 270 41 [l0, l1, l2, l3, l4] (.int (nI 1) :: st) h := zx_go rfl rfl
theorem zs_270_41 : zrun zP sv C 270 41 [l0, l1, l2, l3, l4] (.int y :: .int x :: st) h = zrun zP sv C 270 42 [l0, l1, l2, l3, l4] (.int (x + y) :: st) h := zx_go rfl rfl
theorem zs_270_42 : zrun zP sv C 270 42 [l0, l1, l2, l3, l4] (.int x :: .ref a :: st) h = zpfd (h.1 a) 13 19 0 (.int x) (fun c => zrun zP sv C 270 45 [l0, l1, l2, l3, l4] st (zup h a c)) := zx_putf (x0 := 0) rfl rfl
theorem zs_270_45 : zrun zP sv C 270 45 [l0, l1, l2, l3, .val (.int x)] st h = zrun zP sv C 270 47 [l0, l1, l2, l3, .val (.int x)] (.int x :: st) h := zx_go rfl rfl
theorem zs_270_47 : zrun zP sv C 270 47 [l0, l1, l2, l3, l4] (.int y :: .int x :: .ref a :: st) h = zaset (h.1 a) 20 x (.int y) (fun c => zrun zP sv C 270 48 [l0, l1, l2, l3, l4] st (zup h a c)) := zx_ast rfl rfl
theorem zs_270_48 : zrun zP sv C 270 48 [l0, l1, l2, l3, l4] [] h = some (.inl none, h) := zx_end rfl rfl
theorem zs_271_0 : zrun zP sv C 271 0 [.val (.ref a), l1, l2, l3, l4, l5, l6, l7, l8, l9, l10, l11] st h = zrun zP sv C 271 1 [.val (.ref a), l1, l2, l3, l4, l5, l6, l7, l8, l9, l10, l11] (.ref a :: st) h := zx_go (zq_271_0 0 (Nat.le_of_ble_eq_true rfl) (Nat.le_of_ble_eq_true rfl)) rfl
theorem zs_271_1 : zrun zP sv C 271 1 [l0, l1, l2, l3, l4, l5, l6, l7, l8, l9, l10, l11] (.ref a :: st) h = zfld (h.1 a) 13 6 (fun v => zrun zP sv C 271 4 [l0, l1, l2, l3, l4, l5, l6, l7, l8, l9, l10, l11] (v :: st) h) := zx_getf (zq_271_0 1 (Nat.le_of_ble_eq_true rfl) (Nat.le_of_ble_eq_true rfl)) rfl
theorem zs_271_4 : zrun zP sv C 271 4 [l0, .val (.int x), l2, l3, l4, l5, l6, l7, l8, l9, l10, l11] st h = zrun zP sv C 271 5 [l0, .val (.int x), l2, l3, l4, l5, l6, l7, l8, l9, l10, l11] (.int x :: st) h := zx_go (zq_271_0 4 (Nat.le_of_ble_eq_true rfl) (Nat.le_of_ble_eq_true rfl)) rfl
theorem zs_271_5 : zrun zP sv C 271 5 [l0, l1, l2, l3, l4, l5, l6, l7, l8, l9, l10, l11] (.int x :: .ref a :: st) h = zael (h.1 a) 21 x (fun v => zrun zP sv C 271 6 [l0, l1, l2, l3, l4, l5, l6, l7, l8, l9, l10, l11] (v :: st) h) := zx_ald (zq_271_0 5 (Nat.le_of_ble_eq_true rfl) (Nat.le_of_ble_eq_true rfl)) rfl
theorem zs_271_6 (hs : znw l4 = true) : zrun zP sv C 271 6 [l0, l1, l2, l3, l4, l5, l6, l7, l8, l9, l10, l11] (.int x :: st) h = zrun zP sv C 271 8 [l0, l1, l2, l3, .val (.int x), l5, l6, l7, l8, l9, l10, l11] st h := zx_st hs (zq_271_0 6 (Nat.le_of_ble_eq_true rfl) (Nat.le_of_ble_eq_true rfl)) rfl rfl rfl rfl rfl
theorem zs_271_8 : zrun zP sv C 271 8 [l0, l1, l2, l3, .val (.int x), l5, l6, l7, l8, l9, l10, l11] st h = zrun zP sv C 271 10 [l0, l1, l2, l3, .val (.int x), l5, l6, l7, l8, l9, l10, l11] (.int x :: st) h := zx_go (zq_271_0 8 (Nat.le_of_ble_eq_true rfl) (Nat.le_of_ble_eq_true rfl)) rfl
theorem zs_271_10 : zrun zP sv C 271 10 [l0, l1, l2, l3, l4, l5, l6, l7, l8, l9, l10, l11] [v0] h = zbk (C 205 [v0] h) (fun v h' => zrun zP sv C 271 13 [l0, l1, l2, l3, l4, l5, l6, l7, l8, l9, l10, l11] (v.toList ++ []) h') (fun E h' => some (.inr E, h')) := zx_cs (zq_271_0 10 (Nat.le_of_ble_eq_true rfl) (Nat.le_of_ble_eq_true rfl)) rfl rfl rfl ⟨Nat.le_of_ble_eq_true rfl, rfl⟩ (fun _ _ => rfl)
theorem zs_271_13 : zrun zP sv C 271 13 [l0, l1, l2, l3, l4, l5, l6, l7, l8, l9, l10, l11] (.int x :: st) h = if x = 0 then zrun zP sv C 271 16 [l0, l1, l2, l3, l4, l5, l6, l7, l8, l9, l10, l11] st h else zrun zP sv C 271 31 [l0, l1, l2, l3, l4, l5, l6, l7, l8, l9, l10, l11] st h := (zx_if (zq_271_0 13 (Nat.le_of_ble_eq_true rfl) (Nat.le_of_ble_eq_true rfl)) rfl).trans zc1_if
theorem zs_271_16 : zrun zP sv C 271 16 [.val (.ref a), l1, l2, l3, l4, l5, l6, l7, l8, l9, l10, l11] st h = zrun zP sv C 271 17 [.val (.ref a), l1, l2, l3, l4, l5, l6, l7, l8, l9, l10, l11] (.ref a :: st) h := zx_go (zq_271_0 16 (Nat.le_of_ble_eq_true rfl) (Nat.le_of_ble_eq_true rfl)) rfl
theorem zs_271_17 : zrun zP sv C 271 17 [l0, l1, l2, l3, .val (.int x), l5, l6, l7, l8, l9, l10, l11] st h = zrun zP sv C 271 19 [l0, l1, l2, l3, .val (.int x), l5, l6, l7, l8, l9, l10, l11] (.int x :: st) h := zx_go (zq_271_0 17 (Nat.le_of_ble_eq_true rfl) (Nat.le_of_ble_eq_true rfl)) rfl
theorem zs_271_19 : zrun zP sv C 271 19 [l0, l1, .val (.int x), l3, l4, l5, l6, l7, l8, l9, l10, l11] st h = zrun zP sv C 271 20 [l0, l1, .val (.int x), l3, l4, l5, l6, l7, l8, l9, l10, l11] (.int x :: st) h := zx_go (zq_271_0 19 (Nat.le_of_ble_eq_true rfl) (Nat.le_of_ble_eq_true rfl)) rfl
theorem zs_271_20 : zrun zP sv C 271 20 [.val (.ref a), l1, l2, l3, l4, l5, l6, l7, l8, l9, l10, l11] st h = zrun zP sv C 271 21 [.val (.ref a), l1, l2, l3, l4, l5, l6, l7, l8, l9, l10, l11] (.ref a :: st) h := zx_go (zq_271_0 20 (Nat.le_of_ble_eq_true rfl) (Nat.le_of_ble_eq_true rfl)) rfl
theorem zs_271_21 : zrun zP sv C 271 21 [l0, l1, l2, l3, l4, l5, l6, l7, l8, l9, l10, l11] (.ref a :: st) h = zfld (h.1 a) 13 7 (fun v => zrun zP sv C 271 24 [l0, l1, l2, l3, l4, l5, l6, l7, l8, l9, l10, l11] (v :: st) h) := zx_getf (zq_271_0 21 (Nat.le_of_ble_eq_true rfl) (Nat.le_of_ble_eq_true rfl)) rfl
theorem zs_271_24 : zrun zP sv C 271 24 [l0, .val (.int x), l2, l3, l4, l5, l6, l7, l8, l9, l10, l11] st h = zrun zP sv C 271 25 [l0, .val (.int x), l2, l3, l4, l5, l6, l7, l8, l9, l10, l11] (.int x :: st) h := zx_go (zq_271_0 24 (Nat.le_of_ble_eq_true rfl) (Nat.le_of_ble_eq_true rfl)) rfl
theorem zs_271_25 : zrun zP sv C 271 25 [l0, l1, l2, l3, l4, l5, l6, l7, l8, l9, l10, l11] (.int x :: .ref a :: st) h = zael (h.1 a) 20 x (fun v => zrun zP sv C 271 26 [l0, l1, l2, l3, l4, l5, l6, l7, l8, l9, l10, l11] (v :: st) h) := zx_ald (zq_271_0 25 (Nat.le_of_ble_eq_true rfl) (Nat.le_of_ble_eq_true rfl)) rfl
theorem zs_271_26 : zrun zP sv C 271 26 [l0, l1, l2, l3, l4, l5, l6, l7, l8, l9, l10, l11] st h = zrun zP sv C 271 27 [l0, l1, l2, l3, l4, l5, l6, l7, l8, l9, l10, l11] (.int 0 :: st) h := zx_go (zq_271_0 26 (Nat.le_of_ble_eq_true rfl) (Nat.le_of_ble_eq_true rfl)) rfl
theorem zs_271_27 : zrun zP sv C 271 27 [l0, l1, l2, l3, l4, l5, l6, l7, l8, l9, l10, l11] [v4, v3, v2, v1, .ref b] h = zrc (h.1 b) 13 (zbk (C 270 [.ref b, v1, v2, v3, v4] h) (fun v h' => zrun zP sv C 271 30 [l0, l1, l2, l3, l4, l5, l6, l7, l8, l9, l10, l11] (v.toList ++ []) h') (fun E h' => some (.inr E, h'))) := zx_cv (x0 := 13) (zq_271_0 27 (Nat.le_of_ble_eq_true rfl) (Nat.le_of_ble_eq_true rfl)) rfl rfl rfl rfl ⟨Nat.le_of_ble_eq_true rfl, rfl⟩ (fun _ _ => rfl)
theorem zs_271_30 : zrun zP sv C 271 30 [l0, l1, l2, l3, l4, l5, l6, l7, l8, l9, l10, l11] [] h = some (.inl none, h) := zx_end (zq_271_0 30 (Nat.le_of_ble_eq_true rfl) (Nat.le_of_ble_eq_true rfl)) rfl
theorem zs_271_31 : zrun zP sv C 271 31 [l0, l1, l2, l3, .val (.int x), l5, l6, l7, l8, l9, l10, l11] st h = zrun zP sv C 271 33 [l0, l1, l2, l3, .val (.int x), l5, l6, l7, l8, l9, l10, l11] (.int x :: st) h := zx_go (zq_271_0 31 (Nat.le_of_ble_eq_true rfl) (Nat.le_of_ble_eq_true rfl)) rfl
theorem zs_271_33 : zrun zP sv C 271 33 [l0, l1, l2, l3, l4, l5, l6, l7, l8, l9, l10, l11] st h = zrun zP sv C 271 35 [l0, l1, l2, l3, l4, l5, l6, l7, l8, l9, l10, l11] (.int (nI 110) :: st) h := zx_go (zq_271_0 33 (Nat.le_of_ble_eq_true rfl) (Nat.le_of_ble_eq_true rfl)) rfl
theorem zs_271_35 : zrun zP sv C 271 35 [l0, l1, l2, l3, l4, l5, l6, l7, l8, l9, l10, l11] (.int y :: .int x :: st) h = if x = y then zrun zP sv C 271 38 [l0, l1, l2, l3, l4, l5, l6, l7, l8, l9, l10, l11] st h else zrun zP sv C 271 57 [l0, l1, l2, l3, l4, l5, l6, l7, l8, l9, l10, l11] st h := (zx_ic (zq_271_0 35 (Nat.le_of_ble_eq_true rfl) (Nat.le_of_ble_eq_true rfl)) rfl).trans zc1_if
theorem zs_271_38 : zrun zP sv C 271 38 [.val (.ref a), l1, l2, l3, l4, l5, l6, l7, l8, l9, l10, l11] st h = zrun zP sv C 271 39 [.val (.ref a), l1, l2, l3, l4, l5, l6, l7, l8, l9, l10, l11] (.ref a :: st) h := zx_go (zq_271_0 38 (Nat.le_of_ble_eq_true rfl) (Nat.le_of_ble_eq_true rfl)) rfl
theorem zs_271_39 : zrun zP sv C 271 39 [l0, .val (.int x), l2, l3, l4, l5, l6, l7, l8, l9, l10, l11] st h = zrun zP sv C 271 40 [l0, .val (.int x), l2, l3, l4, l5, l6, l7, l8, l9, l10, l11] (.int x :: st) h := zx_go (zq_271_0 39 (Nat.le_of_ble_eq_true rfl) (Nat.le_of_ble_eq_true rfl)) rfl
theorem zs_271_40 : zrun zP sv C 271 40 [l0, l1, l2, l3, l4, l5, l6, l7, l8, l9, l10, l11] st h = zrun zP sv C 271 41 [l0, l1, l2, l3, l4, l5, l6, l7, l8, l9, l10, l11] (.int (nI 1) :: st) h := zx_go (zq_271_0 40 (Nat.le_of_ble_eq_true rfl) (Nat.le_of_ble_eq_true rfl)) rfl
theorem zs_271_41 : zrun zP sv C 271 41 [l0, l1, l2, l3, l4, l5, l6, l7, l8, l9, l10, l11] (.int y :: .int x :: st) h = zrun zP sv C 271 42 [l0, l1, l2, l3, l4, l5, l6, l7, l8, l9, l10, l11] (.int (x + y) :: st) h := zx_go (zq_271_0 41 (Nat.le_of_ble_eq_true rfl) (Nat.le_of_ble_eq_true rfl)) rfl
theorem zs_271_42 : zrun zP sv C 271 42 [l0, l1, .val (.int x), l3, l4, l5, l6, l7, l8, l9, l10, l11] st h = zrun zP sv C 271 43 [l0, l1, .val (.int x), l3, l4, l5, l6, l7, l8, l9, l10, l11] (.int x :: st) h := zx_go (zq_271_0 42 (Nat.le_of_ble_eq_true rfl) (Nat.le_of_ble_eq_true rfl)) rfl
theorem zs_271_43 : zrun zP sv C 271 43 [l0, l1, l2, .val (.int x), l4, l5, l6, l7, l8, l9, l10, l11] st h = zrun zP sv C 271 44 [l0, l1, l2, .val (.int x), l4, l5, l6, l7, l8, l9, l10, l11] (.int x :: st) h := zx_go (zq_271_0 43 (Nat.le_of_ble_eq_true rfl) (Nat.le_of_ble_eq_true rfl)) rfl
theorem zs_271_44 : zrun zP sv C 271 44 [l0, l1, l2, l3, l4, l5, l6, l7, l8, l9, l10, l11] [v3, v2, v1, .ref b] h = zrc (h.1 b) 13 (zbk (C 271 [.ref b, v1, v2, v3] h) (fun v h' => zrun zP sv C 271 47 [l0, l1, l2, l3, l4, l5, l6, l7, l8, l9, l10, l11] (v.toList ++ []) h') (fun E h' => some (.inr E, h'))) := zx_cv (x0 := 13) (zq_271_0 44 (Nat.le_of_ble_eq_true rfl) (Nat.le_of_ble_eq_true rfl)) rfl rfl rfl rfl ⟨Nat.le_of_ble_eq_true rfl, rfl⟩ (fun _ _ => rfl)
theorem zs_271_47 : zrun zP sv C 271 47 [.val (.ref a), l1, l2, l3, l4, l5, l6, l7, l8, l9, l10, l11] st h = zrun zP sv C 271 48 [.val (.ref a), l1, l2, l3, l4, l5, l6, l7, l8, l9, l10, l11] (.ref a :: st) h := zx_go (zq_271_0 47 (Nat.le_of_ble_eq_true rfl) (Nat.le_of_ble_eq_true rfl)) rfl
theorem zs_271_48 : zrun zP sv C 271 48 [l0, l1, l2, l3, .val (.int x), l5, l6, l7, l8, l9, l10, l11] st h = zrun zP sv C 271 50 [l0, l1, l2, l3, .val (.int x), l5, l6, l7, l8, l9, l10, l11] (.int x :: st) h := zx_go (zq_271_0 48 (Nat.le_of_ble_eq_true rfl) (Nat.le_of_ble_eq_true rfl)) rfl
theorem zs_271_50 : zrun zP sv C 271 50 [l0, l1, .val (.int x), l3, l4, l5, l6, l7, l8, l9, l10, l11] st h = zrun zP sv C 271 51 [l0, l1, .val (.int x), l3, l4, l5, l6, l7, l8, l9, l10, l11] (.int x :: st) h := zx_go (zq_271_0 50 (Nat.le_of_ble_eq_true rfl) (Nat.le_of_ble_eq_true rfl)) rfl
theorem zs_271_51 : zrun zP sv C 271 51 [l0, l1, .val (.int x), l3, l4, l5, l6, l7, l8, l9, l10, l11] st h = zrun zP sv C 271 52 [l0, l1, .val (.int x), l3, l4, l5, l6, l7, l8, l9, l10, l11] (.int x :: st) h := zx_go (zq_271_0 51 (Nat.le_of_ble_eq_true rfl) (Nat.le_of_ble_eq_true rfl)) rfl
theorem zs_271_52 : zrun zP sv C 271 52 [l0, l1, l2, l3, l4, l5, l6, l7, l8, l9, l10, l11] st h = zrun zP sv C 271 53 [l0, l1, l2, l3, l4, l5, l6, l7, l8, l9, l10, l11] (.int 0 :: st) h := zx_go (zq_271_0 52 (Nat.le_of_ble_eq_true rfl) (Nat.le_of_ble_eq_true rfl)) rfl
theorem zs_271_53 : zrun zP sv C 271 53 [l0, l1, l2, l3, l4, l5, l6, l7, l8, l9, l10, l11] [v4, v3, v2, v1, .ref b] h = zrc (h.1 b) 13 (zbk (C 270 [.ref b, v1, v2, v3, v4] h) (fun v h' => zrun zP sv C 271 56 [l0, l1, l2, l3, l4, l5, l6, l7, l8, l9, l10, l11] (v.toList ++ []) h') (fun E h' => some (.inr E, h'))) := zx_cv (x0 := 13) (zq_271_0 53 (Nat.le_of_ble_eq_true rfl) (Nat.le_of_ble_eq_true rfl)) rfl rfl rfl rfl ⟨Nat.le_of_ble_eq_true rfl, rfl⟩ (fun _ _ => rfl)
theorem zs_271_56 : zrun zP sv C 271 56 [l0, l1, l2, l3, l4, l5, l6, l7, l8, l9, l10, l11] [] h = some (.inl none, h) := zx_end (zq_271_0 56 (Nat.le_of_ble_eq_true rfl) (Nat.le_of_ble_eq_true rfl)) rfl
theorem zs_271_57 : zrun zP sv C 271 57 [l0, .val (.int x), l2, l3, l4, l5, l6, l7, l8, l9, l10, l11] st h = zrun zP sv C 271 58 [l0, .val (.int x), l2, l3, l4, l5, l6, l7, l8, l9, l10, l11] (.int x :: st) h := zx_go (zq_271_0 57 (Nat.le_of_ble_eq_true rfl) (Nat.le_of_ble_eq_true rfl)) rfl
theorem zs_271_58 : zrun zP sv C 271 58 [l0, l1, l2, l3, l4, l5, l6, l7, l8, l9, l10, l11] st h = zrun zP sv C 271 59 [l0, l1, l2, l3, l4, l5, l6, l7, l8, l9, l10, l11] (.int (nI 1) :: st) h := zx_go (zq_271_0 58 (Nat.le_of_ble_eq_true rfl) (Nat.le_of_ble_eq_true rfl)) rfl
theorem zs_271_59 : zrun zP sv C 271 59 [l0, l1, l2, l3, l4, l5, l6, l7, l8, l9, l10, l11] (.int y :: .int x :: st) h = zrun zP sv C 271 60 [l0, l1, l2, l3, l4, l5, l6, l7, l8, l9, l10, l11] (.int (x + y) :: st) h := zx_go (zq_271_0 59 (Nat.le_of_ble_eq_true rfl) (Nat.le_of_ble_eq_true rfl)) rfl
theorem zs_271_60 (hs : znw l5 = true) : zrun zP sv C 271 60 [l0, l1, l2, l3, l4, l5, l6, l7, l8, l9, l10, l11] (.int x :: st) h = zrun zP sv C 271 62 [l0, l1, l2, l3, l4, .val (.int x), l6, l7, l8, l9, l10, l11] st h := zx_st hs (zq_271_0 60 (Nat.le_of_ble_eq_true rfl) (Nat.le_of_ble_eq_true rfl)) rfl rfl rfl rfl rfl
theorem zs_271_62 : zrun zP sv C 271 62 [.val (.ref a), l1, l2, l3, l4, l5, l6, l7, l8, l9, l10, l11] st h = zrun zP sv C 271 63 [.val (.ref a), l1, l2, l3, l4, l5, l6, l7, l8, l9, l10, l11] (.ref a :: st) h := zx_go (zq_271_0 62 (Nat.le_of_ble_eq_true rfl) (Nat.le_of_ble_eq_true rfl)) rfl
theorem zs_271_63 : zrun zP sv C 271 63 [l0, l1, l2, l3, l4, .val (.int x), l6, l7, l8, l9, l10, l11] st h = zrun zP sv C 271 65 [l0, l1, l2, l3, l4, .val (.int x), l6, l7, l8, l9, l10, l11] (.int x :: st) h := zx_go (zq_271_0 63 (Nat.le_of_ble_eq_true rfl) (Nat.le_of_ble_eq_true rfl)) rfl
theorem zs_271_65 : zrun zP sv C 271 65 [l0, l1, l2, l3, l4, l5, l6, l7, l8, l9, l10, l11] [v1, .ref b] h = zrc (h.1 b) 13 (zbk (C 209 [.ref b, v1] h) (fun v h' => zrun zP sv C 271 68 [l0, l1, l2, l3, l4, l5, l6, l7, l8, l9, l10, l11] (v.toList ++ []) h') (fun E h' => some (.inr E, h'))) := zx_cv (x0 := 13) (zq_271_0 65 (Nat.le_of_ble_eq_true rfl) (Nat.le_of_ble_eq_true rfl)) rfl rfl rfl rfl ⟨Nat.le_of_ble_eq_true rfl, rfl⟩ (fun _ _ => rfl)
theorem zs_271_68 (hs : znw l6 = true) : zrun zP sv C 271 68 [l0, l1, l2, l3, l4, l5, l6, l7, l8, l9, l10, l11] (.int x :: st) h = zrun zP sv C 271 70 [l0, l1, l2, l3, l4, l5, .val (.int x), l7, l8, l9, l10, l11] st h := zx_st hs (zq_271_0 68 (Nat.le_of_ble_eq_true rfl) (Nat.le_of_ble_eq_true rfl)) rfl rfl rfl rfl rfl
theorem zs_271_70 : zrun zP sv C 271 70 [.val (.ref a), l1, l2, l3, l4, l5, l6, l7, l8, l9, l10, l11] st h = zrun zP sv C 271 71 [.val (.ref a), l1, l2, l3, l4, l5, l6, l7, l8, l9, l10, l11] (.ref a :: st) h := zx_go (zq_271_0 70 (Nat.le_of_ble_eq_true rfl) (Nat.le_of_ble_eq_true rfl)) rfl
theorem zs_271_71 : zrun zP sv C 271 71 [l0, l1, l2, l3, l4, l5, l6, l7, l8, l9, l10, l11] (.ref a :: st) h = zfld (h.1 a) 13 12 (fun v => zrun zP sv C 271 74 [l0, l1, l2, l3, l4, l5, l6, l7, l8, l9, l10, l11] (v :: st) h) := zx_getf (zq_271_0 71 (Nat.le_of_ble_eq_true rfl) (Nat.le_of_ble_eq_true rfl)) rfl
theorem zs_271_74 : zrun zP sv C 271 74 [l0, l1, l2, l3, l4, .val (.int x), l6, l7, l8, l9, l10, l11] st h = zrun zP sv C 271 76 [l0, l1, l2, l3, l4, .val (.int x), l6, l7, l8, l9, l10, l11] (.int x :: st) h := zx_go (zq_271_0 74 (Nat.le_of_ble_eq_true rfl) (Nat.le_of_ble_eq_true rfl)) rfl
theorem zs_271_76 : zrun zP sv C 271 76 [l0, l1, l2, l3, l4, l5, l6, l7, l8, l9, l10, l11] (.int x :: .ref a :: st) h = zael (h.1 a) 20 x (fun v => zrun zP sv C 271 77 [l0, l1, l2, l3, l4, l5, l6, l7, l8, l9, l10, l11] (v :: st) h) := zx_ald (zq_271_0 76 (Nat.le_of_ble_eq_true rfl) (Nat.le_of_ble_eq_true rfl)) rfl
theorem zs_271_77 : zrun zP sv C 271 77 [.val (.ref a), l1, l2, l3, l4, l5, l6, l7, l8, l9, l10, l11] st h = zrun zP sv C 271 78 [.val (.ref a), l1, l2, l3, l4, l5, l6, l7, l8, l9, l10, l11] (.ref a :: st) h := zx_go (zq_271_0 77 (Nat.le_of_ble_eq_true rfl) (Nat.le_of_ble_eq_true rfl)) rfl
theorem zs_271_78 : zrun zP sv C 271 78 [l0, l1, l2, l3, l4, l5, l6, l7, l8, l9, l10, l11] (.ref a :: st) h = zfld (h.1 a) 13 12 (fun v => zrun zP sv C 271 81 [l0, l1, l2, l3, l4, l5, l6, l7, l8, l9, l10, l11] (v :: st) h) := zx_getf (zq_271_0 78 (Nat.le_of_ble_eq_true rfl) (Nat.le_of_ble_eq_true rfl)) rfl
theorem zs_271_81 : zrun zP sv C 271 81 [l0, l1, l2, l3, l4, l5, .val (.int x), l7, l8, l9, l10, l11] st h = zrun zP sv C 271 83 [l0, l1, l2, l3, l4, l5, .val (.int x), l7, l8, l9, l10, l11] (.int x :: st) h := zx_go (zq_271_0 81 (Nat.le_of_ble_eq_true rfl) (Nat.le_of_ble_eq_true rfl)) rfl
theorem zs_271_83 : zrun zP sv C 271 83 [l0, l1, l2, l3, l4, l5, l6, l7, l8, l9, l10, l11] (.int x :: .ref a :: st) h = zael (h.1 a) 20 x (fun v => zrun zP sv C 271 84 [l0, l1, l2, l3, l4, l5, l6, l7, l8, l9, l10, l11] (v :: st) h) := zx_ald (zq_271_0 83 (Nat.le_of_ble_eq_true rfl) (Nat.le_of_ble_eq_true rfl)) rfl
theorem zs_271_84 : zrun zP sv C 271 84 [l0, l1, l2, l3, l4, l5, l6, l7, l8, l9, l10, l11] (.int y :: .int x :: st) h = if x < y then zrun zP sv C 271 91 [l0, l1, l2, l3, l4, l5, l6, l7, l8, l9, l10, l11] st h else zrun zP sv C 271 87 [l0, l1, l2, l3, l4, l5, l6, l7, l8, l9, l10, l11] st h := (zx_ic (zq_271_0 84 (Nat.le_of_ble_eq_true rfl) (Nat.le_of_ble_eq_true rfl)) rfl).trans zc2_if
theorem zs_271_87 : zrun zP sv C 271 87 [l0, l1, l2, l3, l4, l5, l6, l7, l8, l9, l10, l11] st h = zrun zP sv C 271 88 [l0, l1, l2, l3, l4, l5, l6, l7, l8, l9, l10, l11] (.int (nI 1) :: st) h := zx_go (zq_271_0 87 (Nat.le_of_ble_eq_true rfl) (Nat.le_of_ble_eq_true rfl)) rfl
theorem zs_271_88 : zrun zP sv C 271 88 [l0, l1, l2, l3, l4, l5, l6, l7, l8, l9, l10, l11] st h = zrun zP sv C 271 92 [l0, l1, l2, l3, l4, l5, l6, l7, l8, l9, l10, l11] st h := zx_go (zq_271_0 88 (Nat.le_of_ble_eq_true rfl) (Nat.le_of_ble_eq_true rfl)) rfl
theorem zs_271_91 : zrun zP sv C 271 91 [l0, l1, l2, l3, l4, l5, l6, l7, l8, l9, l10, l11] st h = zrun zP sv C 271 92 [l0, l1, l2, l3, l4, l5, l6, l7, l8, l9, l10, l11] (.int 0 :: st) h := zx_go (zq_271_0 91 (Nat.le_of_ble_eq_true rfl) (Nat.le_of_ble_eq_true rfl)) rfl
theorem zs_271_92 (hs : znw l7 = true) : zrun zP sv C 271 92 [l0, l1, l2, l3, l4, l5, l6, l7, l8, l9, l10, l11] (.int x :: st) h = zrun zP sv C 271 94 [l0, l1, l2, l3, l4, l5, l6, .val (.int x), l8, l9, l10, l11] st h := zx_st hs (zq_271_0 92 (Nat.le_of_ble_eq_true rfl) (Nat.le_of_ble_eq_true rfl)) rfl rfl rfl rfl rfl
theorem zs_271_94 : zrun zP sv C 271 94 [l0, l1, l2, l3, l4, l5, l6, .val (.int x), l8, l9, l10, l11] st h = zrun zP sv C 271 96 [l0, l1, l2, l3, l4, l5, l6, .val (.int x), l8, l9, l10, l11] (.int x :: st) h := zx_go (zq_271_0 94 (Nat.le_of_ble_eq_true rfl) (Nat.le_of_ble_eq_true rfl)) rfl
theorem zs_271_96 : zrun zP sv C 271 96 [l0, l1, l2, l3, l4, l5, l6, l7, l8, l9, l10, l11] (.int x :: st) h = if x = 0 then zrun zP sv C 271 104 [l0, l1, l2, l3, l4, l5, l6, l7, l8, l9, l10, l11] st h else zrun zP sv C 271 99 [l0, l1, l2, l3, l4, l5, l6, l7, l8, l9, l10, l11] st h := (zx_if (zq_271_0 96 (Nat.le_of_ble_eq_true rfl) (Nat.le_of_ble_eq_true rfl)) rfl).trans zc0_if
theorem zs_271_99 : zrun zP sv C 271 99 [l0, l1, l2, l3, l4, l5, .val (.int x), l7, l8, l9, l10, l11] st h = zrun zP sv C 271 101 [l0, l1, l2, l3, l4, l5, .val (.int x), l7, l8, l9, l10, l11] (.int x :: st) h := zx_go (zq_271_0 99 (Nat.le_of_ble_eq_true rfl) (Nat.le_of_ble_eq_true rfl)) rfl
theorem zs_271_101 : zrun zP sv C 271 101 [l0, l1, l2, l3, l4, l5, l6, l7, l8, l9, l10, l11] st h = zrun zP sv C 271 106 [l0, l1, l2, l3, l4, l5, l6, l7, l8, l9, l10, l11] st h := zx_go (zq_271_0 101 (Nat.le_of_ble_eq_true rfl) (Nat.le_of_ble_eq_true rfl)) rfl
theorem zs_271_104 : zrun zP sv C 271 104 [l0, l1, l2, l3, l4, .val (.int x), l6, l7, l8, l9, l10, l11] st h = zrun zP sv C 271 106 [l0, l1, l2, l3, l4, .val (.int x), l6, l7, l8, l9, l10, l11] (.int x :: st) h := zx_go (zq_271_0 104 (Nat.le_of_ble_eq_true rfl) (Nat.le_of_ble_eq_true rfl)) rfl
theorem zs_271_106 (hs : znw l8 = true) : zrun zP sv C 271 106 [l0, l1, l2, l3, l4, l5, l6, l7, l8, l9, l10, l11] (.int x :: st) h = zrun zP sv C 271 108 [l0, l1, l2, l3, l4, l5, l6, l7, .val (.int x), l9, l10, l11] st h := zx_st hs (zq_271_0 106 (Nat.le_of_ble_eq_true rfl) (Nat.le_of_ble_eq_true rfl)) rfl rfl rfl rfl rfl
theorem zs_271_108 : zrun zP sv C 271 108 [.val (.ref a), l1, l2, l3, l4, l5, l6, l7, l8, l9, l10, l11] st h = zrun zP sv C 271 109 [.val (.ref a), l1, l2, l3, l4, l5, l6, l7, l8, l9, l10, l11] (.ref a :: st) h := zx_go (zq_271_0 108 (Nat.le_of_ble_eq_true rfl) (Nat.le_of_ble_eq_true rfl)) rfl
theorem zs_271_109 : zrun zP sv C 271 109 [l0, l1, l2, l3, l4, l5, l6, .val (.int x), l8, l9, l10, l11] st h = zrun zP sv C 271 111 [l0, l1, l2, l3, l4, l5, l6, .val (.int x), l8, l9, l10, l11] (.int x :: st) h := zx_go (zq_271_0 109 (Nat.le_of_ble_eq_true rfl) (Nat.le_of_ble_eq_true rfl)) rfl
theorem zs_271_111 : zrun zP sv C 271 111 [l0, l1, l2, l3, l4, l5, l6, l7, l8, l9, l10, l11] (.int x :: st) h = if x = 0 then zrun zP sv C 271 119 [l0, l1, l2, l3, l4, l5, l6, l7, l8, l9, l10, l11] st h else zrun zP sv C 271 114 [l0, l1, l2, l3, l4, l5, l6, l7, l8, l9, l10, l11] st h := (zx_if (zq_271_0 111 (Nat.le_of_ble_eq_true rfl) (Nat.le_of_ble_eq_true rfl)) rfl).trans zc0_if
theorem zs_271_114 : zrun zP sv C 271 114 [l0, l1, l2, l3, l4, .val (.int x), l6, l7, l8, l9, l10, l11] st h = zrun zP sv C 271 116 [l0, l1, l2, l3, l4, .val (.int x), l6, l7, l8, l9, l10, l11] (.int x :: st) h := zx_go (zq_271_0 114 (Nat.le_of_ble_eq_true rfl) (Nat.le_of_ble_eq_true rfl)) rfl
theorem zs_271_116 : zrun zP sv C 271 116 [l0, l1, l2, l3, l4, l5, l6, l7, l8, l9, l10, l11] st h = zrun zP sv C 271 121 [l0, l1, l2, l3, l4, l5, l6, l7, l8, l9, l10, l11] st h := zx_go (zq_271_0 116 (Nat.le_of_ble_eq_true rfl) (Nat.le_of_ble_eq_true rfl)) rfl
theorem zs_271_119 : zrun zP sv C 271 119 [l0, l1, l2, l3, l4, l5, .val (.int x), l7, l8, l9, l10, l11] st h = zrun zP sv C 271 121 [l0, l1, l2, l3, l4, l5, .val (.int x), l7, l8, l9, l10, l11] (.int x :: st) h := zx_go (zq_271_0 119 (Nat.le_of_ble_eq_true rfl) (Nat.le_of_ble_eq_true rfl)) rfl
theorem zs_271_121 : zrun zP sv C 271 121 [l0, l1, .val (.int x), l3, l4, l5, l6, l7, l8, l9, l10, l11] st h = zrun zP sv C 271 122 [l0, l1, .val (.int x), l3, l4, l5, l6, l7, l8, l9, l10, l11] (.int x :: st) h := zx_go (zq_271_0 121 (Nat.le_of_ble_eq_true rfl) (Nat.le_of_ble_eq_true rfl)) rfl
theorem zs_271_122 : zrun zP sv C 271 122 [l0, l1, l2, .val (.int x), l4, l5, l6, l7, l8, l9, l10, l11] st h = zrun zP sv C 271 123 [l0, l1, l2, .val (.int x), l4, l5, l6, l7, l8, l9, l10, l11] (.int x :: st) h := zx_go (zq_271_0 122 (Nat.le_of_ble_eq_true rfl) (Nat.le_of_ble_eq_true rfl)) rfl
theorem zs_271_123 : zrun zP sv C 271 123 [l0, l1, l2, l3, l4, l5, l6, l7, l8, l9, l10, l11] [v3, v2, v1, .ref b] h = zrc (h.1 b) 13 (zbk (C 271 [.ref b, v1, v2, v3] h) (fun v h' => zrun zP sv C 271 126 [l0, l1, l2, l3, l4, l5, l6, l7, l8, l9, l10, l11] (v.toList ++ []) h') (fun E h' => some (.inr E, h'))) := zx_cv (x0 := 13) (zq_271_0 123 (Nat.le_of_ble_eq_true rfl) (Nat.le_of_ble_eq_true rfl)) rfl rfl rfl rfl ⟨Nat.le_of_ble_eq_true rfl, rfl⟩ (fun _ _ => rfl)
theorem zs_271_126 : zrun zP sv C 271 126 [l0, l1, .val (.int x), l3, l4, l5, l6, l7, l8, l9, l10, l11] st h = zrun zP sv C 271 127 [l0, l1, .val (.int x), l3, l4, l5, l6, l7, l8, l9, l10, l11] (.int x :: st) h := zx_go (zq_271_0 126 (Nat.le_of_ble_eq_true rfl) (Nat.le_of_ble_eq_true rfl)) rfl
theorem zs_271_127 (hs : znw l9 = true) : zrun zP sv C 271 127 [l0, l1, l2, l3, l4, l5, l6, l7, l8, l9, l10, l11] (.int x :: st) h = zrun zP sv C 271 129 [l0, l1, l2, l3, l4, l5, l6, l7, l8, .val (.int x), l10, l11] st h := zx_st hs (zq_271_0 127 (Nat.le_of_ble_eq_true rfl) (Nat.le_of_ble_eq_true rfl)) rfl rfl rfl rfl rfl
theorem zs_271_129 : zrun zP sv C 271 129 [l0, l1, .val (.int x), l3, l4, l5, l6, l7, l8, l9, l10, l11] st h = zrun zP sv C 271 130 [l0, l1, .val (.int x), l3, l4, l5, l6, l7, l8, l9, l10, l11] (.int x :: st) h := zx_go (zq_271_0 129 (Nat.le_of_ble_eq_true rfl) (Nat.le_of_ble_eq_true rfl)) rfl
theorem zs_271_130 (hs : znw l10 = true) : zrun zP sv C 271 130 [l0, l1, l2, l3, l4, l5, l6, l7, l8, l9, l10, l11] (.int x :: st) h = zrun zP sv C 271 132 [l0, l1, l2, l3, l4, l5, l6, l7, l8, l9, .val (.int x), l11] st h := zx_st hs (zq_271_0 130 (Nat.le_of_ble_eq_true rfl) (Nat.le_of_ble_eq_true rfl)) rfl rfl rfl rfl rfl
theorem zs_271_132 : zrun zP sv C 271 132 [l0, l1, l2, l3, l4, l5, l6, l7, l8, l9, l10, l11] st h = zrun zP sv C 271 133 [l0, l1, l2, l3, l4, l5, l6, l7, l8, l9, l10, l11] (.int (-1) :: st) h := zx_go (zq_271_0 132 (Nat.le_of_ble_eq_true rfl) (Nat.le_of_ble_eq_true rfl)) rfl
theorem zs_271_133 (hs : znw l11 = true) : zrun zP sv C 271 133 [l0, l1, l2, l3, l4, l5, l6, l7, l8, l9, l10, l11] (.int x :: st) h = zrun zP sv C 271 135 [l0, l1, l2, l3, l4, l5, l6, l7, l8, l9, l10, .val (.int x)] st h := zx_st hs (zq_271_0 133 (Nat.le_of_ble_eq_true rfl) (Nat.le_of_ble_eq_true rfl)) rfl rfl rfl rfl rfl
theorem zs_271_135 : zrun zP sv C 271 135 [.val (.ref a), l1, l2, l3, l4, l5, l6, l7, l8, l9, l10, l11] st h = zrun zP sv C 271 136 [.val (.ref a), l1, l2, l3, l4, l5, l6, l7, l8, l9, l10, l11] (.ref a :: st) h := zx_go (zq_271_0 135 (Nat.le_of_ble_eq_true rfl) (Nat.le_of_ble_eq_true rfl)) rfl
theorem zs_271_136 : zrun zP sv C 271 136 [l0, l1, l2, l3, l4, l5, l6, l7, l8, l9, l10, l11] (.ref a :: st) h = zfld (h.1 a) 13 12 (fun v => zrun zP sv C 271 139 [l0, l1, l2, l3, l4, l5, l6, l7, l8, l9, l10, l11] (v :: st) h) := zx_getf (zq_271_0 136 (Nat.le_of_ble_eq_true rfl) (Nat.le_of_ble_eq_true rfl)) rfl
theorem zs_271_139 : zrun zP sv C 271 139 [l0, l1, l2, l3, l4, l5, l6, l7, .val (.int x), l9, l10, l11] st h = zrun zP sv C 271 141 [l0, l1, l2, l3, l4, l5, l6, l7, .val (.int x), l9, l10, l11] (.int x :: st) h := zx_go (zq_271_0 139 (Nat.le_of_ble_eq_true rfl) (Nat.le_of_ble_eq_true rfl)) rfl
theorem zs_271_141 : zrun zP sv C 271 141 [l0, l1, l2, l3, l4, l5, l6, l7, l8, l9, l10, l11] (.int x :: .ref a :: st) h = zael (h.1 a) 20 x (fun v => zrun zP sv C 271 142 [l0, l1, l2, l3, l4, l5, l6, l7, l8, l9, l10, l11] (v :: st) h) := zx_ald (zq_271_0 141 (Nat.le_of_ble_eq_true rfl) (Nat.le_of_ble_eq_true rfl)) rfl
theorem zs_271_142 : zrun zP sv C 271 142 [l0, l1, l2, .val (.int x), l4, l5, l6, l7, l8, l9, l10, l11] st h = zrun zP sv C 271 143 [l0, l1, l2, .val (.int x), l4, l5, l6, l7, l8, l9, l10, l11] (.int x :: st) h := zx_go (zq_271_0 142 (Nat.le_of_ble_eq_true rfl) (Nat.le_of_ble_eq_true rfl)) rfl
theorem zs_271_143 : zrun zP sv C 271 143 [l0, l1, .val (.int x), l3, l4, l5, l6, l7, l8, l9, l10, l11] st h = zrun zP sv C 271 144 [l0, l1, .val (.int x), l3, l4, l5, l6, l7, l8, l9, l10, l11] (.int x :: st) h := zx_go (zq_271_0 143 (Nat.le_of_ble_eq_true rfl) (Nat.le_of_ble_eq_true rfl)) rfl
theorem zs_271_144 : zrun zP sv C 271 144 [l0, l1, l2, l3, l4, l5, l6, l7, l8, l9, l10, l11] (.int y :: .int x :: st) h = zrun zP sv C 271 145 [l0, l1, l2, l3, l4, l5, l6, l7, l8, l9, l10, l11] (.int (x - y) :: st) h := zx_go (zq_271_0 144 (Nat.le_of_ble_eq_true rfl) (Nat.le_of_ble_eq_true rfl)) rfl
theorem zs_271_145 : zrun zP sv C 271 145 [l0, l1, l2, l3, l4, l5, l6, l7, l8, l9, l10, l11] (.int y :: .int x :: st) h = if x < y then zrun zP sv C 271 148 [l0, l1, l2, l3, l4, l5, l6, l7, l8, l9, l10, l11] st h else zrun zP sv C 271 156 [l0, l1, l2, l3, l4, l5, l6, l7, l8, l9, l10, l11] st h := (zx_ic (zq_271_0 145 (Nat.le_of_ble_eq_true rfl) (Nat.le_of_ble_eq_true rfl)) rfl).trans zc3_if
theorem zs_271_148 : zrun zP sv C 271 148 [l0, l1, .val (.int x), l3, l4, l5, l6, l7, l8, l9, l10, l11] st h = zrun zP sv C 271 149 [l0, l1, .val (.int x), l3, l4, l5, l6, l7, l8, l9, l10, l11] (.int x :: st) h := zx_go (zq_271_0 148 (Nat.le_of_ble_eq_true rfl) (Nat.le_of_ble_eq_true rfl)) rfl
theorem zs_271_149 : zrun zP sv C 271 149 [l0, l1, l2, l3, l4, l5, l6, l7, l8, l9, l10, l11] st h = zrun zP sv C 271 150 [l0, l1, l2, l3, l4, l5, l6, l7, l8, l9, l10, l11] (.int (nI 1) :: st) h := zx_go (zq_271_0 149 (Nat.le_of_ble_eq_true rfl) (Nat.le_of_ble_eq_true rfl)) rfl
theorem zs_271_150 : zrun zP sv C 271 150 [l0, l1, l2, l3, l4, l5, l6, l7, l8, l9, l10, l11] (.int y :: .int x :: st) h = zrun zP sv C 271 151 [l0, l1, l2, l3, l4, l5, l6, l7, l8, l9, l10, l11] (.int (x + y) :: st) h := zx_go (zq_271_0 150 (Nat.le_of_ble_eq_true rfl) (Nat.le_of_ble_eq_true rfl)) rfl
theorem zs_271_151 (hs : znw l10 = true) : zrun zP sv C 271 151 [l0, l1, l2, l3, l4, l5, l6, l7, l8, l9, l10, l11] (.int x :: st) h = zrun zP sv C 271 153 [l0, l1, l2, l3, l4, l5, l6, l7, l8, l9, .val (.int x), l11] st h := zx_st hs (zq_271_0 151 (Nat.le_of_ble_eq_true rfl) (Nat.le_of_ble_eq_true rfl)) rfl rfl rfl rfl rfl
theorem zs_271_153 : zrun zP sv C 271 153 [l0, l1, l2, l3, l4, l5, l6, l7, l8, l9, l10, l11] st h = zrun zP sv C 271 231 [l0, l1, l2, l3, l4, l5, l6, l7, l8, l9, l10, l11] st h := zx_go (zq_271_0 153 (Nat.le_of_ble_eq_true rfl) (Nat.le_of_ble_eq_true rfl)) rfl
theorem zs_271_156 : zrun zP sv C 271 156 [l0, l1, l2, l3, l4, l5, l6, l7, l8, l9, l10, l11] st h = zrun zP sv C 271 157 [l0, l1, l2, l3, l4, l5, l6, l7, l8, l9, l10, l11] (.int 0 :: st) h := zx_go (zq_271_0 156 (Nat.le_of_ble_eq_true rfl) (Nat.le_of_ble_eq_true rfl)) rfl
theorem zs_271_157 (hs : znw l11 = true) : zrun zP sv C 271 157 [l0, l1, l2, l3, l4, l5, l6, l7, l8, l9, l10, l11] (.int x :: st) h = zrun zP sv C 271 159 [l0, l1, l2, l3, l4, l5, l6, l7, l8, l9, l10, .val (.int x)] st h := zx_st hs (zq_271_0 157 (Nat.le_of_ble_eq_true rfl) (Nat.le_of_ble_eq_true rfl)) rfl rfl rfl rfl rfl
theorem zs_271_159 : zrun zP sv C 271 159 [.val (.ref a), l1, l2, l3, l4, l5, l6, l7, l8, l9, l10, l11] st h = zrun zP sv C 271 160 [.val (.ref a), l1, l2, l3, l4, l5, l6, l7, l8, l9, l10, l11] (.ref a :: st) h := zx_go (zq_271_0 159 (Nat.le_of_ble_eq_true rfl) (Nat.le_of_ble_eq_true rfl)) rfl
theorem zs_271_160 : zrun zP sv C 271 160 [l0, l1, l2, l3, l4, l5, l6, l7, l8, l9, l10, l11] (.ref a :: st) h = zfld (h.1 a) 13 22 (fun v => zrun zP sv C 271 163 [l0, l1, l2, l3, l4, l5, l6, l7, l8, l9, l10, l11] (v :: st) h) := zx_getf (zq_271_0 160 (Nat.le_of_ble_eq_true rfl) (Nat.le_of_ble_eq_true rfl)) rfl
theorem zs_271_163 : zrun zP sv C 271 163 [l0, l1, l2, l3, l4, l5, l6, l7, l8, l9, l10, .val (.int x)] st h = zrun zP sv C 271 165 [l0, l1, l2, l3, l4, l5, l6, l7, l8, l9, l10, .val (.int x)] (.int x :: st) h := zx_go (zq_271_0 163 (Nat.le_of_ble_eq_true rfl) (Nat.le_of_ble_eq_true rfl)) rfl
theorem zs_271_165 : zrun zP sv C 271 165 [l0, l1, l2, l3, l4, l5, l6, l7, l8, l9, l10, l11] (.int y :: .int x :: st) h = zrun zP sv C 271 166 [l0, l1, l2, l3, l4, l5, l6, l7, l8, l9, l10, l11] (.int (x >>> (y &&& 31)) :: st) h := zx_go (zq_271_0 165 (Nat.le_of_ble_eq_true rfl) (Nat.le_of_ble_eq_true rfl)) rfl
theorem zs_271_166 : zrun zP sv C 271 166 [l0, l1, l2, l3, l4, l5, l6, l7, l8, l9, l10, l11] st h = zrun zP sv C 271 167 [l0, l1, l2, l3, l4, l5, l6, l7, l8, l9, l10, l11] (.int (nI 1) :: st) h := zx_go (zq_271_0 166 (Nat.le_of_ble_eq_true rfl) (Nat.le_of_ble_eq_true rfl)) rfl
theorem zs_271_167 : zrun zP sv C 271 167 [l0, l1, l2, l3, l4, l5, l6, l7, l8, l9, l10, l11] (.int y :: .int x :: st) h = zrun zP sv C 271 168 [l0, l1, l2, l3, l4, l5, l6, l7, l8, l9, l10, l11] (.int (x &&& y) :: st) h := zx_go (zq_271_0 167 (Nat.le_of_ble_eq_true rfl) (Nat.le_of_ble_eq_true rfl)) rfl
theorem zs_271_168 : zrun zP sv C 271 168 [l0, l1, l2, l3, l4, l5, l6, l7, l8, l9, l10, l11] st h = zrun zP sv C 271 169 [l0, l1, l2, l3, l4, l5, l6, l7, l8, l9, l10, l11] (.int (nI 1) :: st) h := zx_go (zq_271_0 168 (Nat.le_of_ble_eq_true rfl) (Nat.le_of_ble_eq_true rfl)) rfl
theorem zs_271_169 : zrun zP sv C 271 169 [l0, l1, l2, l3, l4, l5, l6, l7, l8, l9, l10, l11] (.int y :: .int x :: st) h = if x = y then zrun zP sv C 271 172 [l0, l1, l2, l3, l4, l5, l6, l7, l8, l9, l10, l11] st h else zrun zP sv C 271 178 [l0, l1, l2, l3, l4, l5, l6, l7, l8, l9, l10, l11] st h := (zx_ic (zq_271_0 169 (Nat.le_of_ble_eq_true rfl) (Nat.le_of_ble_eq_true rfl)) rfl).trans zc1_if
theorem zs_271_172 : zrun zP sv C 271 172 [l0, l1, l2, l3, l4, l5, l6, l7, l8, l9, l10, .val (.int x)] st h = zrun zP sv C 271 175 [l0, l1, l2, l3, l4, l5, l6, l7, l8, l9, l10, .val (.int (x + (nI 1)))] st h := zx_ii (zq_271_1 172 (Nat.le_of_ble_eq_true rfl) (Nat.le_of_ble_eq_true rfl)) rfl rfl rfl rfl
theorem zs_271_175 : zrun zP sv C 271 175 [l0, l1, l2, l3, l4, l5, l6, l7, l8, l9, l10, l11] st h = zrun zP sv C 271 159 [l0, l1, l2, l3, l4, l5, l6, l7, l8, l9, l10, l11] st h := zx_go (zq_271_1 175 (Nat.le_of_ble_eq_true rfl) (Nat.le_of_ble_eq_true rfl)) rfl
theorem zs_271_178 : zrun zP sv C 271 178 [.val (.ref a), l1, l2, l3, l4, l5, l6, l7, l8, l9, l10, l11] st h = zrun zP sv C 271 179 [.val (.ref a), l1, l2, l3, l4, l5, l6, l7, l8, l9, l10, l11] (.ref a :: st) h := zx_go (zq_271_1 178 (Nat.le_of_ble_eq_true rfl) (Nat.le_of_ble_eq_true rfl)) rfl
theorem zs_271_179 : zrun zP sv C 271 179 [l0, l1, l2, l3, l4, l5, l6, l7, l8, l9, l10, l11] (.ref a :: st) h = zrun zP sv C 271 180 [l0, l1, l2, l3, l4, l5, l6, l7, l8, l9, l10, l11] (.ref a :: .ref a :: st) h := zx_go (zq_271_1 179 (Nat.le_of_ble_eq_true rfl) (Nat.le_of_ble_eq_true rfl)) rfl
theorem zs_271_180 : zrun zP sv C 271 180 [l0, l1, l2, l3, l4, l5, l6, l7, l8, l9, l10, l11] (.ref a :: st) h = zfld (h.1 a) 13 22 (fun v => zrun zP sv C 271 183 [l0, l1, l2, l3, l4, l5, l6, l7, l8, l9, l10, l11] (v :: st) h) := zx_getf (zq_271_1 180 (Nat.le_of_ble_eq_true rfl) (Nat.le_of_ble_eq_true rfl)) rfl
theorem zs_271_183 : zrun zP sv C 271 183 [l0, l1, l2, l3, l4, l5, l6, l7, l8, l9, l10, l11] st h = zrun zP sv C 271 184 [l0, l1, l2, l3, l4, l5, l6, l7, l8, l9, l10, l11] (.int (nI 1) :: st) h := zx_go (zq_271_1 183 (Nat.le_of_ble_eq_true rfl) (Nat.le_of_ble_eq_true rfl)) rfl
theorem zs_271_184 : zrun zP sv C 271 184 [l0, l1, l2, l3, l4, l5, l6, l7, l8, l9, l10, .val (.int x)] st h = zrun zP sv C 271 186 [l0, l1, l2, l3, l4, l5, l6, l7, l8, l9, l10, .val (.int x)] (.int x :: st) h := zx_go (zq_271_1 184 (Nat.le_of_ble_eq_true rfl) (Nat.le_of_ble_eq_true rfl)) rfl
theorem zs_271_186 : zrun zP sv C 271 186 [l0, l1, l2, l3, l4, l5, l6, l7, l8, l9, l10, l11] (.int y :: .int x :: st) h = zrun zP sv C 271 187 [l0, l1, l2, l3, l4, l5, l6, l7, l8, l9, l10, l11] (.int (x <<< (y &&& 31)) :: st) h := zx_go (zq_271_1 186 (Nat.le_of_ble_eq_true rfl) (Nat.le_of_ble_eq_true rfl)) rfl
theorem zs_271_187 : zrun zP sv C 271 187 [l0, l1, l2, l3, l4, l5, l6, l7, l8, l9, l10, l11] (.int y :: .int x :: st) h = zrun zP sv C 271 188 [l0, l1, l2, l3, l4, l5, l6, l7, l8, l9, l10, l11] (.int (x ||| y) :: st) h := zx_go (zq_271_1 187 (Nat.le_of_ble_eq_true rfl) (Nat.le_of_ble_eq_true rfl)) rfl
theorem zs_271_188 : zrun zP sv C 271 188 [l0, l1, l2, l3, l4, l5, l6, l7, l8, l9, l10, l11] (.int x :: .ref a :: st) h = zpfd (h.1 a) 13 22 0 (.int x) (fun c => zrun zP sv C 271 191 [l0, l1, l2, l3, l4, l5, l6, l7, l8, l9, l10, l11] st (zup h a c)) := zx_putf (x0 := 0) (zq_271_1 188 (Nat.le_of_ble_eq_true rfl) (Nat.le_of_ble_eq_true rfl)) rfl
theorem zs_271_191 : zrun zP sv C 271 191 [.val (.ref a), l1, l2, l3, l4, l5, l6, l7, l8, l9, l10, l11] st h = zrun zP sv C 271 192 [.val (.ref a), l1, l2, l3, l4, l5, l6, l7, l8, l9, l10, l11] (.ref a :: st) h := zx_go (zq_271_1 191 (Nat.le_of_ble_eq_true rfl) (Nat.le_of_ble_eq_true rfl)) rfl
theorem zs_271_192 : zrun zP sv C 271 192 [l0, l1, l2, l3, l4, l5, l6, l7, l8, l9, l10, l11] (.ref a :: st) h = zrun zP sv C 271 193 [l0, l1, l2, l3, l4, l5, l6, l7, l8, l9, l10, l11] (.ref a :: .ref a :: st) h := zx_go (zq_271_1 192 (Nat.le_of_ble_eq_true rfl) (Nat.le_of_ble_eq_true rfl)) rfl
theorem zs_271_193 : zrun zP sv C 271 193 [l0, l1, l2, l3, l4, l5, l6, l7, l8, l9, l10, l11] (.ref a :: st) h = zfld (h.1 a) 13 21 (fun v => zrun zP sv C 271 196 [l0, l1, l2, l3, l4, l5, l6, l7, l8, l9, l10, l11] (v :: st) h) := zx_getf (zq_271_1 193 (Nat.le_of_ble_eq_true rfl) (Nat.le_of_ble_eq_true rfl)) rfl
theorem zs_271_196 : zrun zP sv C 271 196 [l0, l1, l2, l3, l4, l5, l6, l7, l8, l9, l10, l11] st h = zrun zP sv C 271 197 [l0, l1, l2, l3, l4, l5, l6, l7, l8, l9, l10, l11] (.int (nI 1) :: st) h := zx_go (zq_271_1 196 (Nat.le_of_ble_eq_true rfl) (Nat.le_of_ble_eq_true rfl)) rfl
theorem zs_271_197 : zrun zP sv C 271 197 [l0, l1, l2, l3, l4, l5, l6, l7, l8, l9, l10, .val (.int x)] st h = zrun zP sv C 271 199 [l0, l1, l2, l3, l4, l5, l6, l7, l8, l9, l10, .val (.int x)] (.int x :: st) h := zx_go (zq_271_1 197 (Nat.le_of_ble_eq_true rfl) (Nat.le_of_ble_eq_true rfl)) rfl
theorem zs_271_199 : zrun zP sv C 271 199 [l0, l1, l2, l3, l4, l5, l6, l7, l8, l9, l10, l11] (.int y :: .int x :: st) h = zrun zP sv C 271 200 [l0, l1, l2, l3, l4, l5, l6, l7, l8, l9, l10, l11] (.int (x <<< (y &&& 31)) :: st) h := zx_go (zq_271_1 199 (Nat.le_of_ble_eq_true rfl) (Nat.le_of_ble_eq_true rfl)) rfl
theorem zs_271_200 : zrun zP sv C 271 200 [l0, l1, l2, l3, l4, l5, l6, l7, l8, l9, l10, l11] (.int y :: .int x :: st) h = zrun zP sv C 271 201 [l0, l1, l2, l3, l4, l5, l6, l7, l8, l9, l10, l11] (.int (x ||| y) :: st) h := zx_go (zq_271_1 200 (Nat.le_of_ble_eq_true rfl) (Nat.le_of_ble_eq_true rfl)) rfl
theorem zs_271_201 : zrun zP sv C 271 201 [l0, l1, l2, l3, l4, l5, l6, l7, l8, l9, l10, l11] (.int x :: .ref a :: st) h = zpfd (h.1 a) 13 21 0 (.int x) (fun c => zrun zP sv C 271 204 [l0, l1, l2, l3, l4, l5, l6, l7, l8, l9, l10, l11] st (zup h a c)) := zx_putf (x0 := 0) (zq_271_1 201 (Nat.le_of_ble_eq_true rfl) (Nat.le_of_ble_eq_true rfl)) rfl
theorem zs_271_204 : zrun zP sv C 271 204 [.val (.ref a), l1, l2, l3, l4, l5, l6, l7, l8, l9, l10, l11] st h = zrun zP sv C 271 205 [.val (.ref a), l1, l2, l3, l4, l5, l6, l7, l8, l9, l10, l11] (.ref a :: st) h := zx_go (zq_271_1 204 (Nat.le_of_ble_eq_true rfl) (Nat.le_of_ble_eq_true rfl)) rfl
theorem zs_271_205 : zrun zP sv C 271 205 [l0, l1, l2, l3, l4, l5, l6, l7, l8, l9, l10, l11] (.ref a :: st) h = zrun zP sv C 271 206 [l0, l1, l2, l3, l4, l5, l6, l7, l8, l9, l10, l11] (.ref a :: .ref a :: st) h := zx_go (zq_271_1 205 (Nat.le_of_ble_eq_true rfl) (Nat.le_of_ble_eq_true rfl)) rfl
theorem zs_271_206 : zrun zP sv C 271 206 [l0, l1, l2, l3, l4, l5, l6, l7, l8, l9, l10, l11] (.ref a :: st) h = zfld (h.1 a) 13 20 (fun v => zrun zP sv C 271 209 [l0, l1, l2, l3, l4, l5, l6, l7, l8, l9, l10, l11] (v :: st) h) := zx_getf (zq_271_1 206 (Nat.le_of_ble_eq_true rfl) (Nat.le_of_ble_eq_true rfl)) rfl
theorem zs_271_209 : zrun zP sv C 271 209 [l0, l1, l2, l3, l4, l5, l6, l7, l8, l9, l10, l11] st h = zrun zP sv C 271 210 [l0, l1, l2, l3, l4, l5, l6, l7, l8, l9, l10, l11] (.int (nI 1) :: st) h := zx_go (zq_271_1 209 (Nat.le_of_ble_eq_true rfl) (Nat.le_of_ble_eq_true rfl)) rfl
theorem zs_271_210 : zrun zP sv C 271 210 [l0, l1, l2, l3, l4, l5, l6, l7, l8, l9, l10, l11] (.int y :: .int x :: st) h = zrun zP sv C 271 211 [l0, l1, l2, l3, l4, l5, l6, l7, l8, l9, l10, l11] (.int (x + y) :: st) h := zx_go (zq_271_1 210 (Nat.le_of_ble_eq_true rfl) (Nat.le_of_ble_eq_true rfl)) rfl
theorem zs_271_211 : zrun zP sv C 271 211 [l0, l1, l2, l3, l4, l5, l6, l7, l8, l9, l10, l11] (.int x :: .ref a :: st) h = zpfd (h.1 a) 13 20 0 (.int x) (fun c => zrun zP sv C 271 214 [l0, l1, l2, l3, l4, l5, l6, l7, l8, l9, l10, l11] st (zup h a c)) := zx_putf (x0 := 0) (zq_271_1 211 (Nat.le_of_ble_eq_true rfl) (Nat.le_of_ble_eq_true rfl)) rfl
theorem zs_271_214 : zrun zP sv C 271 214 [.val (.ref a), l1, l2, l3, l4, l5, l6, l7, l8, l9, l10, l11] st h = zrun zP sv C 271 215 [.val (.ref a), l1, l2, l3, l4, l5, l6, l7, l8, l9, l10, l11] (.ref a :: st) h := zx_go (zq_271_1 214 (Nat.le_of_ble_eq_true rfl) (Nat.le_of_ble_eq_true rfl)) rfl
theorem zs_271_215 : zrun zP sv C 271 215 [l0, l1, l2, l3, l4, l5, l6, l7, l8, l9, l10, l11] st h = zrun zP sv C 271 217 [l0, l1, l2, l3, l4, l5, l6, l7, l8, l9, l10, l11] (.int (nI 115) :: st) h := zx_go (zq_271_1 215 (Nat.le_of_ble_eq_true rfl) (Nat.le_of_ble_eq_true rfl)) rfl
theorem zs_271_217 : zrun zP sv C 271 217 [l0, l1, .val (.int x), l3, l4, l5, l6, l7, l8, l9, l10, l11] st h = zrun zP sv C 271 218 [l0, l1, .val (.int x), l3, l4, l5, l6, l7, l8, l9, l10, l11] (.int x :: st) h := zx_go (zq_271_1 217 (Nat.le_of_ble_eq_true rfl) (Nat.le_of_ble_eq_true rfl)) rfl
theorem zs_271_218 : zrun zP sv C 271 218 [l0, l1, l2, l3, l4, l5, l6, l7, l8, l9, l10, .val (.int x)] st h = zrun zP sv C 271 220 [l0, l1, l2, l3, l4, l5, l6, l7, l8, l9, l10, .val (.int x)] (.int x :: st) h := zx_go (zq_271_1 218 (Nat.le_of_ble_eq_true rfl) (Nat.le_of_ble_eq_true rfl)) rfl
theorem zs_271_220 : zrun zP sv C 271 220 [l0, l1, l2, l3, l4, l5, l6, l7, l8, l9, l10, l11] st h = zrun zP sv C 271 221 [l0, l1, l2, l3, l4, l5, l6, l7, l8, l9, l10, l11] (.int 0 :: st) h := zx_go (zq_271_1 220 (Nat.le_of_ble_eq_true rfl) (Nat.le_of_ble_eq_true rfl)) rfl
theorem zs_271_221 : zrun zP sv C 271 221 [l0, l1, l2, l3, l4, l5, l6, l7, l8, l9, l10, l11] [v4, v3, v2, v1, .ref b] h = zrc (h.1 b) 13 (zbk (C 270 [.ref b, v1, v2, v3, v4] h) (fun v h' => zrun zP sv C 271 224 [l0, l1, l2, l3, l4, l5, l6, l7, l8, l9, l10, l11] (v.toList ++ []) h') (fun E h' => some (.inr E, h'))) := zx_cv (x0 := 13) (zq_271_1 221 (Nat.le_of_ble_eq_true rfl) (Nat.le_of_ble_eq_true rfl)) rfl rfl rfl rfl ⟨Nat.le_of_ble_eq_true rfl, rfl⟩ (fun _ _ => rfl)
theorem zs_271_224 : zrun zP sv C 271 224 [l0, l1, l2, l3, l4, l5, l6, l7, l8, l9, l10, l11] st h = zrun zP sv C 271 226 [l0, l1, l2, l3, l4, l5, l6, l7, l8, l9, l10, l11] (.int (nI 10) :: st) h := zx_go (zq_271_1 224 (Nat.le_of_ble_eq_true rfl) (Nat.le_of_ble_eq_true rfl)) rfl
theorem zs_271_226 : zrun zP sv C 271 226 [l0, l1, l2, l3, l4, l5, l6, l7, l8, l9, l10, .val (.int x)] st h = zrun zP sv C 271 228 [l0, l1, l2, l3, l4, l5, l6, l7, l8, l9, l10, .val (.int x)] (.int x :: st) h := zx_go (zq_271_1 226 (Nat.le_of_ble_eq_true rfl) (Nat.le_of_ble_eq_true rfl)) rfl
theorem zs_271_228 : zrun zP sv C 271 228 [l0, l1, l2, l3, l4, l5, l6, l7, l8, l9, l10, l11] (.int y :: .int x :: st) h = zrun zP sv C 271 229 [l0, l1, l2, l3, l4, l5, l6, l7, l8, l9, l10, l11] (.int (x + y) :: st) h := zx_go (zq_271_1 228 (Nat.le_of_ble_eq_true rfl) (Nat.le_of_ble_eq_true rfl)) rfl
theorem zs_271_229 (hs : znw l9 = true) : zrun zP sv C 271 229 [l0, l1, l2, l3, l4, l5, l6, l7, l8, l9, l10, l11] (.int x :: st) h = zrun zP sv C 271 231 [l0, l1, l2, l3, l4, l5, l6, l7, l8, .val (.int x), l10, l11] st h := zx_st hs (zq_271_1 229 (Nat.le_of_ble_eq_true rfl) (Nat.le_of_ble_eq_true rfl)) rfl rfl rfl rfl rfl
theorem zs_271_231 : zrun zP sv C 271 231 [.val (.ref a), l1, l2, l3, l4, l5, l6, l7, l8, l9, l10, l11] st h = zrun zP sv C 271 232 [.val (.ref a), l1, l2, l3, l4, l5, l6, l7, l8, l9, l10, l11] (.ref a :: st) h := zx_go (zq_271_1 231 (Nat.le_of_ble_eq_true rfl) (Nat.le_of_ble_eq_true rfl)) rfl
theorem zs_271_232 : zrun zP sv C 271 232 [l0, l1, l2, l3, l4, l5, l6, l7, .val (.int x), l9, l10, l11] st h = zrun zP sv C 271 234 [l0, l1, l2, l3, l4, l5, l6, l7, .val (.int x), l9, l10, l11] (.int x :: st) h := zx_go (zq_271_1 232 (Nat.le_of_ble_eq_true rfl) (Nat.le_of_ble_eq_true rfl)) rfl
theorem zs_271_234 : zrun zP sv C 271 234 [l0, l1, l2, l3, l4, l5, l6, l7, l8, l9, .val (.int x), l11] st h = zrun zP sv C 271 236 [l0, l1, l2, l3, l4, l5, l6, l7, l8, l9, .val (.int x), l11] (.int x :: st) h := zx_go (zq_271_1 234 (Nat.le_of_ble_eq_true rfl) (Nat.le_of_ble_eq_true rfl)) rfl
theorem zs_271_236 : zrun zP sv C 271 236 [l0, l1, l2, .val (.int x), l4, l5, l6, l7, l8, l9, l10, l11] st h = zrun zP sv C 271 237 [l0, l1, l2, .val (.int x), l4, l5, l6, l7, l8, l9, l10, l11] (.int x :: st) h := zx_go (zq_271_1 236 (Nat.le_of_ble_eq_true rfl) (Nat.le_of_ble_eq_true rfl)) rfl
theorem zs_271_237 : zrun zP sv C 271 237 [l0, l1, l2, l3, l4, l5, l6, l7, l8, l9, l10, l11] [v3, v2, v1, .ref b] h = zrc (h.1 b) 13 (zbk (C 271 [.ref b, v1, v2, v3] h) (fun v h' => zrun zP sv C 271 240 [l0, l1, l2, l3, l4, l5, l6, l7, l8, l9, l10, l11] (v.toList ++ []) h') (fun E h' => some (.inr E, h'))) := zx_cv (x0 := 13) (zq_271_1 237 (Nat.le_of_ble_eq_true rfl) (Nat.le_of_ble_eq_true rfl)) rfl rfl rfl rfl ⟨Nat.le_of_ble_eq_true rfl, rfl⟩ (fun _ _ => rfl)
theorem zs_271_240 : zrun zP sv C 271 240 [.val (.ref a), l1, l2, l3, l4, l5, l6, l7, l8, l9, l10, l11] st h = zrun zP sv C 271 241 [.val (.ref a), l1, l2, l3, l4, l5, l6, l7, l8, l9, l10, l11] (.ref a :: st) h := zx_go (zq_271_1 240 (Nat.le_of_ble_eq_true rfl) (Nat.le_of_ble_eq_true rfl)) rfl
theorem zs_271_241 : zrun zP sv C 271 241 [l0, l1, l2, l3, .val (.int x), l5, l6, l7, l8, l9, l10, l11] st h = zrun zP sv C 271 243 [l0, l1, l2, l3, .val (.int x), l5, l6, l7, l8, l9, l10, l11] (.int x :: st) h := zx_go (zq_271_1 241 (Nat.le_of_ble_eq_true rfl) (Nat.le_of_ble_eq_true rfl)) rfl
theorem zs_271_243 : zrun zP sv C 271 243 [l0, l1, .val (.int x), l3, l4, l5, l6, l7, l8, l9, l10, l11] st h = zrun zP sv C 271 244 [l0, l1, .val (.int x), l3, l4, l5, l6, l7, l8, l9, l10, l11] (.int x :: st) h := zx_go (zq_271_1 243 (Nat.le_of_ble_eq_true rfl) (Nat.le_of_ble_eq_true rfl)) rfl
theorem zs_271_244 : zrun zP sv C 271 244 [l0, l1, l2, l3, l4, l5, l6, .val (.int x), l8, l9, l10, l11] st h = zrun zP sv C 271 246 [l0, l1, l2, l3, l4, l5, l6, .val (.int x), l8, l9, l10, l11] (.int x :: st) h := zx_go (zq_271_1 244 (Nat.le_of_ble_eq_true rfl) (Nat.le_of_ble_eq_true rfl)) rfl
theorem zs_271_246 : zrun zP sv C 271 246 [l0, l1, l2, l3, l4, l5, l6, l7, l8, l9, l10, l11] (.int x :: st) h = if x = 0 then zrun zP sv C 271 254 [l0, l1, l2, l3, l4, l5, l6, l7, l8, l9, l10, l11] st h else zrun zP sv C 271 249 [l0, l1, l2, l3, l4, l5, l6, l7, l8, l9, l10, l11] st h := (zx_if (zq_271_1 246 (Nat.le_of_ble_eq_true rfl) (Nat.le_of_ble_eq_true rfl)) rfl).trans zc0_if
theorem zs_271_249 : zrun zP sv C 271 249 [l0, l1, l2, l3, l4, l5, l6, l7, l8, .val (.int x), l10, l11] st h = zrun zP sv C 271 251 [l0, l1, l2, l3, l4, l5, l6, l7, l8, .val (.int x), l10, l11] (.int x :: st) h := zx_go (zq_271_1 249 (Nat.le_of_ble_eq_true rfl) (Nat.le_of_ble_eq_true rfl)) rfl
theorem zs_271_251 : zrun zP sv C 271 251 [l0, l1, l2, l3, l4, l5, l6, l7, l8, l9, l10, l11] st h = zrun zP sv C 271 256 [l0, l1, l2, l3, l4, l5, l6, l7, l8, l9, l10, l11] st h := zx_go (zq_271_1 251 (Nat.le_of_ble_eq_true rfl) (Nat.le_of_ble_eq_true rfl)) rfl
theorem zs_271_254 : zrun zP sv C 271 254 [l0, l1, l2, l3, l4, l5, l6, l7, l8, l9, .val (.int x), l11] st h = zrun zP sv C 271 256 [l0, l1, l2, l3, l4, l5, l6, l7, l8, l9, .val (.int x), l11] (.int x :: st) h := zx_go (zq_271_1 254 (Nat.le_of_ble_eq_true rfl) (Nat.le_of_ble_eq_true rfl)) rfl
theorem zs_271_256 : zrun zP sv C 271 256 [l0, l1, l2, l3, l4, l5, l6, .val (.int x), l8, l9, l10, l11] st h = zrun zP sv C 271 258 [l0, l1, l2, l3, l4, l5, l6, .val (.int x), l8, l9, l10, l11] (.int x :: st) h := zx_go (zq_271_1 256 (Nat.le_of_ble_eq_true rfl) (Nat.le_of_ble_eq_true rfl)) rfl
theorem zs_271_258 : zrun zP sv C 271 258 [l0, l1, l2, l3, l4, l5, l6, l7, l8, l9, l10, l11] (.int x :: st) h = if x = 0 then zrun zP sv C 271 266 [l0, l1, l2, l3, l4, l5, l6, l7, l8, l9, l10, l11] st h else zrun zP sv C 271 261 [l0, l1, l2, l3, l4, l5, l6, l7, l8, l9, l10, l11] st h := (zx_if (zq_271_1 258 (Nat.le_of_ble_eq_true rfl) (Nat.le_of_ble_eq_true rfl)) rfl).trans zc0_if
theorem zs_271_261 : zrun zP sv C 271 261 [l0, l1, l2, l3, l4, l5, l6, l7, l8, l9, .val (.int x), l11] st h = zrun zP sv C 271 263 [l0, l1, l2, l3, l4, l5, l6, l7, l8, l9, .val (.int x), l11] (.int x :: st) h := zx_go (zq_271_1 261 (Nat.le_of_ble_eq_true rfl) (Nat.le_of_ble_eq_true rfl)) rfl
theorem zs_271_263 : zrun zP sv C 271 263 [l0, l1, l2, l3, l4, l5, l6, l7, l8, l9, l10, l11] st h = zrun zP sv C 271 268 [l0, l1, l2, l3, l4, l5, l6, l7, l8, l9, l10, l11] st h := zx_go (zq_271_1 263 (Nat.le_of_ble_eq_true rfl) (Nat.le_of_ble_eq_true rfl)) rfl
theorem zs_271_266 : zrun zP sv C 271 266 [l0, l1, l2, l3, l4, l5, l6, l7, l8, .val (.int x), l10, l11] st h = zrun zP sv C 271 268 [l0, l1, l2, l3, l4, l5, l6, l7, l8, .val (.int x), l10, l11] (.int x :: st) h := zx_go (zq_271_1 266 (Nat.le_of_ble_eq_true rfl) (Nat.le_of_ble_eq_true rfl)) rfl
theorem zs_271_268 : zrun zP sv C 271 268 [l0, l1, l2, l3, l4, l5, l6, l7, l8, l9, l10, l11] [v4, v3, v2, v1, .ref b] h = zrc (h.1 b) 13 (zbk (C 270 [.ref b, v1, v2, v3, v4] h) (fun v h' => zrun zP sv C 271 271 [l0, l1, l2, l3, l4, l5, l6, l7, l8, l9, l10, l11] (v.toList ++ []) h') (fun E h' => some (.inr E, h'))) := zx_cv (x0 := 13) (zq_271_1 268 (Nat.le_of_ble_eq_true rfl) (Nat.le_of_ble_eq_true rfl)) rfl rfl rfl rfl ⟨Nat.le_of_ble_eq_true rfl, rfl⟩ (fun _ _ => rfl)
theorem zs_271_271 : zrun zP sv C 271 271 [l0, l1, l2, l3, l4, l5, l6, l7, l8, l9, l10, .val (.int x)] st h = zrun zP sv C 271 273 [l0, l1, l2, l3, l4, l5, l6, l7, l8, l9, l10, .val (.int x)] (.int x :: st) h := zx_go (zq_271_1 271 (Nat.le_of_ble_eq_true rfl) (Nat.le_of_ble_eq_true rfl)) rfl
theorem zs_271_273 : zrun zP sv C 271 273 [l0, l1, l2, l3, l4, l5, l6, l7, l8, l9, l10, l11] (.int x :: st) h = if x < 0 then zrun zP sv C 271 291 [l0, l1, l2, l3, l4, l5, l6, l7, l8, l9, l10, l11] st h else zrun zP sv C 271 276 [l0, l1, l2, l3, l4, l5, l6, l7, l8, l9, l10, l11] st h := (zx_if (zq_271_1 273 (Nat.le_of_ble_eq_true rfl) (Nat.le_of_ble_eq_true rfl)) rfl).trans zc2_if
theorem zs_271_276 : zrun zP sv C 271 276 [.val (.ref a), l1, l2, l3, l4, l5, l6, l7, l8, l9, l10, l11] st h = zrun zP sv C 271 277 [.val (.ref a), l1, l2, l3, l4, l5, l6, l7, l8, l9, l10, l11] (.ref a :: st) h := zx_go (zq_271_1 276 (Nat.le_of_ble_eq_true rfl) (Nat.le_of_ble_eq_true rfl)) rfl
theorem zs_271_277 : zrun zP sv C 271 277 [l0, l1, l2, l3, l4, l5, l6, l7, l8, l9, l10, l11] (.ref a :: st) h = zrun zP sv C 271 278 [l0, l1, l2, l3, l4, l5, l6, l7, l8, l9, l10, l11] (.ref a :: .ref a :: st) h := zx_go (zq_271_1 277 (Nat.le_of_ble_eq_true rfl) (Nat.le_of_ble_eq_true rfl)) rfl
theorem zs_271_278 : zrun zP sv C 271 278 [l0, l1, l2, l3, l4, l5, l6, l7, l8, l9, l10, l11] (.ref a :: st) h = zfld (h.1 a) 13 22 (fun v => zrun zP sv C 271 281 [l0, l1, l2, l3, l4, l5, l6, l7, l8, l9, l10, l11] (v :: st) h) := zx_getf (zq_271_1 278 (Nat.le_of_ble_eq_true rfl) (Nat.le_of_ble_eq_true rfl)) rfl
theorem zs_271_281 : zrun zP sv C 271 281 [l0, l1, l2, l3, l4, l5, l6, l7, l8, l9, l10, l11] st h = zrun zP sv C 271 282 [l0, l1, l2, l3, l4, l5, l6, l7, l8, l9, l10, l11] (.int (nI 1) :: st) h := zx_go (zq_271_1 281 (Nat.le_of_ble_eq_true rfl) (Nat.le_of_ble_eq_true rfl)) rfl
theorem zs_271_282 : zrun zP sv C 271 282 [l0, l1, l2, l3, l4, l5, l6, l7, l8, l9, l10, .val (.int x)] st h = zrun zP sv C 271 284 [l0, l1, l2, l3, l4, l5, l6, l7, l8, l9, l10, .val (.int x)] (.int x :: st) h := zx_go (zq_271_1 282 (Nat.le_of_ble_eq_true rfl) (Nat.le_of_ble_eq_true rfl)) rfl
theorem zs_271_284 : zrun zP sv C 271 284 [l0, l1, l2, l3, l4, l5, l6, l7, l8, l9, l10, l11] (.int y :: .int x :: st) h = zrun zP sv C 271 285 [l0, l1, l2, l3, l4, l5, l6, l7, l8, l9, l10, l11] (.int (x <<< (y &&& 31)) :: st) h := zx_go (zq_271_1 284 (Nat.le_of_ble_eq_true rfl) (Nat.le_of_ble_eq_true rfl)) rfl
theorem zs_271_285 : zrun zP sv C 271 285 [l0, l1, l2, l3, l4, l5, l6, l7, l8, l9, l10, l11] st h = zrun zP sv C 271 286 [l0, l1, l2, l3, l4, l5, l6, l7, l8, l9, l10, l11] (.int (-1) :: st) h := zx_go (zq_271_1 285 (Nat.le_of_ble_eq_true rfl) (Nat.le_of_ble_eq_true rfl)) rfl
theorem zs_271_286 : zrun zP sv C 271 286 [l0, l1, l2, l3, l4, l5, l6, l7, l8, l9, l10, l11] (.int y :: .int x :: st) h = zrun zP sv C 271 287 [l0, l1, l2, l3, l4, l5, l6, l7, l8, l9, l10, l11] (.int (x ^^^ y) :: st) h := zx_go (zq_271_1 286 (Nat.le_of_ble_eq_true rfl) (Nat.le_of_ble_eq_true rfl)) rfl
theorem zs_271_287 : zrun zP sv C 271 287 [l0, l1, l2, l3, l4, l5, l6, l7, l8, l9, l10, l11] (.int y :: .int x :: st) h = zrun zP sv C 271 288 [l0, l1, l2, l3, l4, l5, l6, l7, l8, l9, l10, l11] (.int (x &&& y) :: st) h := zx_go (zq_271_1 287 (Nat.le_of_ble_eq_true rfl) (Nat.le_of_ble_eq_true rfl)) rfl
theorem zs_271_288 : zrun zP sv C 271 288 [l0, l1, l2, l3, l4, l5, l6, l7, l8, l9, l10, l11] (.int x :: .ref a :: st) h = zpfd (h.1 a) 13 22 0 (.int x) (fun c => zrun zP sv C 271 291 [l0, l1, l2, l3, l4, l5, l6, l7, l8, l9, l10, l11] st (zup h a c)) := zx_putf (x0 := 0) (zq_271_1 288 (Nat.le_of_ble_eq_true rfl) (Nat.le_of_ble_eq_true rfl)) rfl
theorem zs_271_291 : zrun zP sv C 271 291 [l0, l1, l2, l3, l4, l5, l6, l7, l8, l9, l10, l11] [] h = some (.inl none, h) := zx_end (zq_271_1 291 (Nat.le_of_ble_eq_true rfl) (Nat.le_of_ble_eq_true rfl)) rfl
theorem zs_272_0 : zrun zP sv C 272 0 [.val (.ref a), l1, l2, l3] st h = zrun zP sv C 272 1 [.val (.ref a), l1, l2, l3] (.ref a :: st) h := zx_go rfl rfl
theorem zs_272_1 : zrun zP sv C 272 1 [l0, .val (.int x), l2, l3] st h = zrun zP sv C 272 2 [l0, .val (.int x), l2, l3] (.int x :: st) h := zx_go rfl rfl
theorem zs_272_2 : zrun zP sv C 272 2 [l0, l1, l2, l3] [v1, .ref b] h = zrc (h.1 b) 13 (zbk (C 252 [.ref b, v1] h) (fun v h' => zrun zP sv C 272 5 [l0, l1, l2, l3] (v.toList ++ []) h') (fun E h' => some (.inr E, h'))) := zx_cv (x0 := 13) rfl rfl rfl rfl rfl ⟨Nat.le_of_ble_eq_true rfl, rfl⟩ (fun _ _ => rfl)
theorem zs_272_5 : zrun zP sv C 272 5 [l0, l1, l2, l3] (.int x :: st) h = if x = 0 then zrun zP sv C 272 8 [l0, l1, l2, l3] st h else zrun zP sv C 272 10 [l0, l1, l2, l3] st h := (zx_if rfl rfl).trans zc1_if
theorem zs_272_8 : zrun zP sv C 272 8 [l0, l1, l2, l3] st h = zrun zP sv C 272 9 [l0, l1, l2, l3] (.int 0 :: st) h := zx_go rfl rfl
theorem zs_272_9 : zrun zP sv C 272 9 [l0, l1, l2, l3] [.int x] h = zgd (zty 5 (.int x)) (some (.inl (some (.int x)), h)) := zx_rt rfl
theorem zs_272_10 : zrun zP sv C 272 10 [.val (.ref a), l1, l2, l3] st h = zrun zP sv C 272 11 [.val (.ref a), l1, l2, l3] (.ref a :: st) h := zx_go rfl rfl
theorem zs_272_11 : zrun zP sv C 272 11 [l0, l1, l2, l3] st h = zrun zP sv C 272 12 [l0, l1, l2, l3] (.int 0 :: st) h := zx_go rfl rfl
theorem zs_272_12 : zrun zP sv C 272 12 [l0, l1, l2, l3] (.int x :: .ref a :: st) h = zpfd (h.1 a) 13 19 0 (.int x) (fun c => zrun zP sv C 272 15 [l0, l1, l2, l3] st (zup h a c)) := zx_putf (x0 := 0) rfl rfl
theorem zs_272_15 : zrun zP sv C 272 15 [.val (.ref a), l1, l2, l3] st h = zrun zP sv C 272 16 [.val (.ref a), l1, l2, l3] (.ref a :: st) h := zx_go rfl rfl
theorem zs_272_16 : zrun zP sv C 272 16 [l0, l1, l2, l3] st h = zrun zP sv C 272 17 [l0, l1, l2, l3] (.int 0 :: st) h := zx_go rfl rfl
theorem zs_272_17 : zrun zP sv C 272 17 [l0, l1, l2, l3] (.int x :: .ref a :: st) h = zpfd (h.1 a) 13 20 0 (.int x) (fun c => zrun zP sv C 272 20 [l0, l1, l2, l3] st (zup h a c)) := zx_putf (x0 := 0) rfl rfl
theorem zs_272_20 : zrun zP sv C 272 20 [.val (.ref a), l1, l2, l3] st h = zrun zP sv C 272 21 [.val (.ref a), l1, l2, l3] (.ref a :: st) h := zx_go rfl rfl
theorem zs_272_21 : zrun zP sv C 272 21 [l0, l1, l2, l3] st h = zrun zP sv C 272 22 [l0, l1, l2, l3] (.int 0 :: st) h := zx_go rfl rfl
theorem zs_272_22 : zrun zP sv C 272 22 [l0, l1, l2, l3] (.int x :: .ref a :: st) h = zpfd (h.1 a) 13 21 0 (.int x) (fun c => zrun zP sv C 272 25 [l0, l1, l2, l3] st (zup h a c)) := zx_putf (x0 := 0) rfl rfl
theorem zs_272_25 : zrun zP sv C 272 25 [.val (.ref a), l1, l2, l3] st h = zrun zP sv C 272 26 [.val (.ref a), l1, l2, l3] (.ref a :: st) h := zx_go rfl rfl
theorem zs_272_26 : zrun zP sv C 272 26 [l0, l1, l2, l3] st h = zrun zP sv C 272 27 [l0, l1, l2, l3] (.int 0 :: st) h := zx_go rfl rfl
theorem zs_272_27 : zrun zP sv C 272 27 [l0, l1, l2, l3] (.int x :: .ref a :: st) h = zpfd (h.1 a) 13 22 0 (.int x) (fun c => zrun zP sv C 272 30 [l0, l1, l2, l3] st (zup h a c)) := zx_putf (x0 := 0) rfl rfl
theorem zs_272_30 : zrun zP sv C 272 30 [.val (.ref a), l1, l2, l3] st h = zrun zP sv C 272 31 [.val (.ref a), l1, l2, l3] (.ref a :: st) h := zx_go rfl rfl
theorem zs_272_31 : zrun zP sv C 272 31 [l0, l1, l2, l3] st h = zrun zP sv C 272 32 [l0, l1, l2, l3] (.int (nI 3) :: st) h := zx_go rfl rfl
theorem zs_272_32 : zrun zP sv C 272 32 [l0, l1, l2, l3] [v1, .ref b] h = zrc (h.1 b) 13 (zbk (C 213 [.ref b, v1] h) (fun v h' => zrun zP sv C 272 35 [l0, l1, l2, l3] (v.toList ++ []) h') (fun E h' => some (.inr E, h'))) := zx_cv (x0 := 13) rfl rfl rfl rfl rfl ⟨Nat.le_of_ble_eq_true rfl, rfl⟩ (fun _ _ => rfl)
theorem zs_272_35 (hs : znw l3 = true) : zrun zP sv C 272 35 [l0, l1, l2, l3] (.int x :: st) h = zrun zP sv C 272 36 [l0, l1, l2, .val (.int x)] st h := zx_st hs rfl rfl rfl rfl rfl rfl
theorem zs_272_36 : zrun zP sv C 272 36 [.val (.ref a), l1, l2, l3] st h = zrun zP sv C 272 37 [.val (.ref a), l1, l2, l3] (.ref a :: st) h := zx_go rfl rfl
theorem zs_272_37 : zrun zP sv C 272 37 [l0, l1, l2, l3] st h = zrun zP sv C 272 38 [l0, l1, l2, l3] (.int 0 :: st) h := zx_go rfl rfl
theorem zs_272_38 : zrun zP sv C 272 38 [l0, l1, l2, l3] st h = zrun zP sv C 272 39 [l0, l1, l2, l3] (.int 0 :: st) h := zx_go rfl rfl
theorem zs_272_39 : zrun zP sv C 272 39 [l0, l1, .val (.int x), l3] st h = zrun zP sv C 272 40 [l0, l1, .val (.int x), l3] (.int x :: st) h := zx_go rfl rfl
theorem zs_272_40 : zrun zP sv C 272 40 [l0, l1, l2, l3] [v3, v2, v1, .ref b] h = zrc (h.1 b) 13 (zbk (C 271 [.ref b, v1, v2, v3] h) (fun v h' => zrun zP sv C 272 43 [l0, l1, l2, l3] (v.toList ++ []) h') (fun E h' => some (.inr E, h'))) := zx_cv (x0 := 13) rfl rfl rfl rfl rfl ⟨Nat.le_of_ble_eq_true rfl, rfl⟩ (fun _ _ => rfl)
theorem zs_272_43 : zrun zP sv C 272 43 [l0, l1, l2, .val (.int x)] st h = zrun zP sv C 272 44 [l0, l1, l2, .val (.int x)] (.int x :: st) h := zx_go rfl rfl
theorem zs_272_44 : zrun zP sv C 272 44 [l0, l1, l2, l3] (.int x :: st) h = if 0 < x then zrun zP sv C 272 47 [l0, l1, l2, l3] st h else zrun zP sv C 272 51 [l0, l1, l2, l3] st h := (zx_if rfl rfl).trans zc5_if
theorem zs_272_47 : zrun zP sv C 272 47 [l0, l1, l2, l3] st h = zrun zP sv C 272 48 [l0, l1, l2, l3] (.int (nI 1) :: st) h := zx_go rfl rfl
theorem zs_272_48 : zrun zP sv C 272 48 [l0, l1, l2, l3] st h = zrun zP sv C 272 52 [l0, l1, l2, l3] st h := zx_go rfl rfl
theorem zs_272_51 : zrun zP sv C 272 51 [l0, l1, l2, l3] st h = zrun zP sv C 272 52 [l0, l1, l2, l3] (.int 0 :: st) h := zx_go rfl rfl
theorem zs_272_52 : zrun zP sv C 272 52 [l0, l1, l2, l3] [.int x] h = zgd (zty 5 (.int x)) (some (.inl (some (.int x)), h)) := zx_rt rfl
theorem zs_273_0 : zrun zP sv C 273 0 [.val (.ref a), l1] st h = zrun zP sv C 273 1 [.val (.ref a), l1] (.ref a :: st) h := zx_go rfl rfl
theorem zs_273_1 : zrun zP sv C 273 1 [l0, .val (.int x)] st h = zrun zP sv C 273 2 [l0, .val (.int x)] (.int x :: st) h := zx_go rfl rfl
theorem zs_273_2 : zrun zP sv C 273 2 [.val (.ref a), l1] st h = zrun zP sv C 273 3 [.val (.ref a), l1] (.ref a :: st) h := zx_go rfl rfl
theorem zs_273_3 : zrun zP sv C 273 3 [l0, l1] (.ref a :: st) h = zfld (h.1 a) 13 0 (fun v => zrun zP sv C 273 6 [l0, l1] (v :: st) h) := zx_getf rfl rfl
theorem zs_273_6 : zrun zP sv C 273 6 [l0, l1] st h = zrun zP sv C 273 7 [l0, l1] (.int (nI 1) :: st) h := zx_go rfl rfl
theorem zs_273_7 : zrun zP sv C 273 7 [l0, l1] (.int x :: .ref a :: st) h = zael (h.1 a) 20 x (fun v => zrun zP sv C 273 8 [l0, l1] (v :: st) h) := zx_ald rfl rfl
theorem zs_273_8 : zrun zP sv C 273 8 [l0, l1] [v2, v1, .ref b] h = zrc (h.1 b) 13 (zbk (C 272 [.ref b, v1, v2] h) (fun v h' => zrun zP sv C 273 11 [l0, l1] (v.toList ++ []) h') (fun E h' => some (.inr E, h'))) := zx_cv (x0 := 13) rfl rfl rfl rfl rfl ⟨Nat.le_of_ble_eq_true rfl, rfl⟩ (fun _ _ => rfl)
theorem zs_273_11 : zrun zP sv C 273 11 [l0, l1] (.int x :: st) h = if x = 0 then zrun zP sv C 273 21 [l0, l1] st h else zrun zP sv C 273 14 [l0, l1] st h := (zx_if rfl rfl).trans zc0_if
theorem zs_273_14 : zrun zP sv C 273 14 [.val (.ref a), l1] st h = zrun zP sv C 273 15 [.val (.ref a), l1] (.ref a :: st) h := zx_go rfl rfl
theorem zs_273_15 : zrun zP sv C 273 15 [l0, l1] (.ref a :: st) h = zfld (h.1 a) 13 19 (fun v => zrun zP sv C 273 18 [l0, l1] (v :: st) h) := zx_getf rfl rfl
theorem zs_273_18 : zrun zP sv C 273 18 [l0, l1] st h = zrun zP sv C 273 22 [l0, l1] st h := zx_go rfl rfl
theorem zs_273_21 : zrun zP sv C 273 21 [l0, l1] st h = zrun zP sv C 273 22 [l0, l1] (.int 0 :: st) h := zx_go rfl rfl
theorem zs_273_22 : zrun zP sv C 273 22 [l0, l1] [.int x] h = some (.inl (some (.int x)), h) := zx_end rfl rfl
theorem zs_274_0 : zrun zP sv C 274 0 [.val (.ref a), l1] st h = zrun zP sv C 274 1 [.val (.ref a), l1] (.ref a :: st) h := zx_go rfl rfl
theorem zs_274_1 : zrun zP sv C 274 1 [l0, .val (.int x)] st h = zrun zP sv C 274 2 [l0, .val (.int x)] (.int x :: st) h := zx_go rfl rfl
theorem zs_274_2 : zrun zP sv C 274 2 [.val (.ref a), l1] st h = zrun zP sv C 274 3 [.val (.ref a), l1] (.ref a :: st) h := zx_go rfl rfl
theorem zs_274_3 : zrun zP sv C 274 3 [l0, l1] (.ref a :: st) h = zfld (h.1 a) 13 0 (fun v => zrun zP sv C 274 6 [l0, l1] (v :: st) h) := zx_getf rfl rfl
theorem zs_274_6 : zrun zP sv C 274 6 [l0, l1] st h = zrun zP sv C 274 7 [l0, l1] (.int (nI 1) :: st) h := zx_go rfl rfl
theorem zs_274_7 : zrun zP sv C 274 7 [l0, l1] (.int x :: .ref a :: st) h = zael (h.1 a) 20 x (fun v => zrun zP sv C 274 8 [l0, l1] (v :: st) h) := zx_ald rfl rfl
theorem zs_274_8 : zrun zP sv C 274 8 [l0, l1] [v2, v1, .ref b] h = zrc (h.1 b) 13 (zbk (C 272 [.ref b, v1, v2] h) (fun v h' => zrun zP sv C 274 11 [l0, l1] (v.toList ++ []) h') (fun E h' => some (.inr E, h'))) := zx_cv (x0 := 13) rfl rfl rfl rfl rfl ⟨Nat.le_of_ble_eq_true rfl, rfl⟩ (fun _ _ => rfl)
theorem zs_274_11 : zrun zP sv C 274 11 [l0, l1] (.int x :: st) h = if x = 0 then zrun zP sv C 274 21 [l0, l1] st h else zrun zP sv C 274 14 [l0, l1] st h := (zx_if rfl rfl).trans zc0_if
theorem zs_274_14 : zrun zP sv C 274 14 [.val (.ref a), l1] st h = zrun zP sv C 274 15 [.val (.ref a), l1] (.ref a :: st) h := zx_go rfl rfl
theorem zs_274_15 : zrun zP sv C 274 15 [l0, l1] (.ref a :: st) h = zfld (h.1 a) 13 20 (fun v => zrun zP sv C 274 18 [l0, l1] (v :: st) h) := zx_getf rfl rfl
theorem zs_274_18 : zrun zP sv C 274 18 [l0, l1] st h = zrun zP sv C 274 22 [l0, l1] st h := zx_go rfl rfl
theorem zs_274_21 : zrun zP sv C 274 21 [l0, l1] st h = zrun zP sv C 274 22 [l0, l1] (.int 0 :: st) h := zx_go rfl rfl
theorem zs_274_22 : zrun zP sv C 274 22 [l0, l1] [.int x] h = some (.inl (some (.int x)), h) := zx_end rfl rfl
theorem zs_275_0 : zrun zP sv C 275 0 [.val (.ref a), l1] st h = zrun zP sv C 275 1 [.val (.ref a), l1] (.ref a :: st) h := zx_go rfl rfl
theorem zs_275_1 : zrun zP sv C 275 1 [l0, .val (.int x)] st h = zrun zP sv C 275 2 [l0, .val (.int x)] (.int x :: st) h := zx_go rfl rfl
theorem zs_275_2 : zrun zP sv C 275 2 [.val (.ref a), l1] st h = zrun zP sv C 275 3 [.val (.ref a), l1] (.ref a :: st) h := zx_go rfl rfl
theorem zs_275_3 : zrun zP sv C 275 3 [l0, l1] (.ref a :: st) h = zfld (h.1 a) 13 0 (fun v => zrun zP sv C 275 6 [l0, l1] (v :: st) h) := zx_getf rfl rfl
theorem zs_275_6 : zrun zP sv C 275 6 [l0, l1] st h = zrun zP sv C 275 7 [l0, l1] (.int (nI 1) :: st) h := zx_go rfl rfl
theorem zs_275_7 : zrun zP sv C 275 7 [l0, l1] (.int x :: .ref a :: st) h = zael (h.1 a) 20 x (fun v => zrun zP sv C 275 8 [l0, l1] (v :: st) h) := zx_ald rfl rfl
theorem zs_275_8 : zrun zP sv C 275 8 [l0, l1] [v2, v1, .ref b] h = zrc (h.1 b) 13 (zbk (C 272 [.ref b, v1, v2] h) (fun v h' => zrun zP sv C 275 11 [l0, l1] (v.toList ++ []) h') (fun E h' => some (.inr E, h'))) := zx_cv (x0 := 13) rfl rfl rfl rfl rfl ⟨Nat.le_of_ble_eq_true rfl, rfl⟩ (fun _ _ => rfl)
theorem zs_275_11 : zrun zP sv C 275 11 [l0, l1] (.int x :: st) h = if x = 0 then zrun zP sv C 275 24 [l0, l1] st h else zrun zP sv C 275 14 [l0, l1] st h := (zx_if rfl rfl).trans zc0_if
theorem zs_275_14 : zrun zP sv C 275 14 [.val (.ref a), l1] st h = zrun zP sv C 275 15 [.val (.ref a), l1] (.ref a :: st) h := zx_go rfl rfl
theorem zs_275_15 : zrun zP sv C 275 15 [l0, l1] (.ref a :: st) h = zfld (h.1 a) 13 21 (fun v => zrun zP sv C 275 18 [l0, l1] (v :: st) h) := zx_getf rfl rfl
theorem zs_275_18 : zrun zP sv C 275 18 [l0, l1] [v0] h = zbk (C 22 [v0] h) (fun v h' => zrun zP sv C 275 21 [l0, l1] (v.toList ++ []) h') (fun E h' => some (.inr E, h')) := zx_cs rfl rfl rfl rfl ⟨Nat.le_of_ble_eq_true rfl, rfl⟩ (fun _ _ => rfl)
theorem zs_275_21 : zrun zP sv C 275 21 [l0, l1] st h = zrun zP sv C 275 25 [l0, l1] st h := zx_go rfl rfl
theorem zs_275_24 : zrun zP sv C 275 24 [l0, l1] st h = zrun zP sv C 275 25 [l0, l1] (.int 0 :: st) h := zx_go rfl rfl
theorem zs_275_25 : zrun zP sv C 275 25 [l0, l1] [.int x] h = some (.inl (some (.int x)), h) := zx_end rfl rfl
theorem zs_276_0 : zrun zP sv C 276 0 [l0, l1, l2] st h = zrun zP sv C 276 1 [l0, l1, l2] (.int (nI 1) :: st) h := zx_go rfl rfl
theorem zs_276_1 (hs : znw l2 = true) : zrun zP sv C 276 1 [l0, l1, l2] (.int x :: st) h = zrun zP sv C 276 2 [l0, l1, .val (.int x)] st h := zx_st hs rfl rfl rfl rfl rfl rfl
theorem zs_276_2 : zrun zP sv C 276 2 [l0, l1, .val (.int x)] st h = zrun zP sv C 276 3 [l0, l1, .val (.int x)] (.int x :: st) h := zx_go rfl rfl
theorem zs_276_3 : zrun zP sv C 276 3 [l0, l1, l2] st h = zrun zP sv C 276 4 [l0, l1, l2] (.int (nI 4) :: st) h := zx_go rfl rfl
theorem zs_276_4 : zrun zP sv C 276 4 [l0, l1, l2] (.int y :: .int x :: st) h = if y < x then zrun zP sv C 276 42 [l0, l1, l2] st h else zrun zP sv C 276 7 [l0, l1, l2] st h := (zx_ic rfl rfl).trans zc4_if
theorem zs_276_7 : zrun zP sv C 276 7 [.val (.ref a), l1, l2] st h = zrun zP sv C 276 8 [.val (.ref a), l1, l2] (.ref a :: st) h := zx_go rfl rfl
theorem zs_276_8 : zrun zP sv C 276 8 [l0, .val (.int x), l2] st h = zrun zP sv C 276 9 [l0, .val (.int x), l2] (.int x :: st) h := zx_go rfl rfl
theorem zs_276_9 : zrun zP sv C 276 9 [l0, l1, .val (.int x)] st h = zrun zP sv C 276 10 [l0, l1, .val (.int x)] (.int x :: st) h := zx_go rfl rfl
theorem zs_276_10 : zrun zP sv C 276 10 [l0, l1, l2] [v2, v1, .ref b] h = zrc (h.1 b) 13 (zbk (C 272 [.ref b, v1, v2] h) (fun v h' => zrun zP sv C 276 13 [l0, l1, l2] (v.toList ++ []) h') (fun E h' => some (.inr E, h'))) := zx_cv (x0 := 13) rfl rfl rfl rfl rfl ⟨Nat.le_of_ble_eq_true rfl, rfl⟩ (fun _ _ => rfl)
theorem zs_276_13 : zrun zP sv C 276 13 [l0, l1, l2] (.int x :: st) h = if x = 0 then zrun zP sv C 276 23 [l0, l1, l2] st h else zrun zP sv C 276 16 [l0, l1, l2] st h := (zx_if rfl rfl).trans zc0_if
theorem zs_276_16 : zrun zP sv C 276 16 [.val (.ref a), l1, l2] st h = zrun zP sv C 276 17 [.val (.ref a), l1, l2] (.ref a :: st) h := zx_go rfl rfl
theorem zs_276_17 : zrun zP sv C 276 17 [l0, l1, l2] (.ref a :: st) h = zfld (h.1 a) 13 20 (fun v => zrun zP sv C 276 20 [l0, l1, l2] (v :: st) h) := zx_getf rfl rfl
theorem zs_276_20 : zrun zP sv C 276 20 [l0, l1, l2] (.int x :: st) h = if x = 0 then zrun zP sv C 276 23 [l0, l1, l2] st h else zrun zP sv C 276 36 [l0, l1, l2] st h := (zx_if rfl rfl).trans zc1_if
theorem zs_276_23 : zrun zP sv C 276 23 [.val (.ref a), l1, l2] st h = zrun zP sv C 276 24 [.val (.ref a), l1, l2] (.ref a :: st) h := zx_go rfl rfl
theorem zs_276_24 : zrun zP sv C 276 24 [l0, l1, l2] (.ref a :: st) h = zfld (h.1 a) 13 31 (fun v => zrun zP sv C 276 27 [l0, l1, l2] (v :: st) h) := zx_getf rfl rfl
theorem zs_276_27 : zrun zP sv C 276 27 [l0, l1, l2] (.int x :: st) h = if x = 0 then zrun zP sv C 276 30 [l0, l1, l2] st h else zrun zP sv C 276 34 [l0, l1, l2] st h := (zx_if rfl rfl).trans zc1_if
theorem zs_276_30 : zrun zP sv C 276 30 [l0, l1, .val (.int x)] st h = zrun zP sv C 276 31 [l0, l1, .val (.int x)] (.int x :: st) h := zx_go rfl rfl
theorem zs_276_31 : zrun zP sv C 276 31 [l0, l1, l2] st h = zrun zP sv C 276 35 [l0, l1, l2] st h := zx_go rfl rfl
theorem zs_276_34 : zrun zP sv C 276 34 [l0, l1, l2] st h = zrun zP sv C 276 35 [l0, l1, l2] (.int 0 :: st) h := zx_go rfl rfl
theorem zs_276_35 : zrun zP sv C 276 35 [l0, l1, l2] [.int x] h = some (.inl (some (.int x)), h) := zx_end rfl rfl
theorem zs_276_36 : zrun zP sv C 276 36 [l0, l1, .val (.int x)] st h = zrun zP sv C 276 39 [l0, l1, .val (.int (x + (nI 1)))] st h := zx_ii rfl rfl rfl rfl rfl
theorem zs_276_39 : zrun zP sv C 276 39 [l0, l1, l2] st h = zrun zP sv C 276 2 [l0, l1, l2] st h := zx_go rfl rfl
theorem zs_276_42 : zrun zP sv C 276 42 [.val (.ref a), l1, l2] st h = zrun zP sv C 276 43 [.val (.ref a), l1, l2] (.ref a :: st) h := zx_go rfl rfl
theorem zs_276_43 : zrun zP sv C 276 43 [l0, l1, l2] st h = zrun zP sv C 276 44 [l0, l1, l2] (.int (nI 2) :: st) h := zx_go rfl rfl
theorem zs_276_44 : zrun zP sv C 276 44 [l0, l1, l2] [v1, .ref b] h = zrc (h.1 b) 13 (zbk (C 198 [.ref b, v1] h) (fun v h' => zrun zP sv C 276 47 [l0, l1, l2] (v.toList ++ []) h') (fun E h' => some (.inr E, h'))) := zx_cv (x0 := 13) rfl rfl rfl rfl rfl ⟨Nat.le_of_ble_eq_true rfl, rfl⟩ (fun _ _ => rfl)
theorem zs_276_47 : zrun zP sv C 276 47 [l0, l1, l2] [.int x] h = some (.inl (some (.int x)), h) := zx_end rfl rfl
theorem zs_277_0 : zrun zP sv C 277 0 [.val (.ref a), l1, l2, l3] st h = zrun zP sv C 277 1 [.val (.ref a), l1, l2, l3] (.ref a :: st) h := zx_go rfl rfl
theorem zs_277_1 : zrun zP sv C 277 1 [l0, .val (.int x), l2, l3] st h = zrun zP sv C 277 2 [l0, .val (.int x), l2, l3] (.int x :: st) h := zx_go rfl rfl
theorem zs_277_2 : zrun zP sv C 277 2 [.val (.ref a), l1, l2, l3] st h = zrun zP sv C 277 3 [.val (.ref a), l1, l2, l3] (.ref a :: st) h := zx_go rfl rfl
theorem zs_277_3 : zrun zP sv C 277 3 [l0, l1, l2, l3] (.ref a :: st) h = zfld (h.1 a) 13 0 (fun v => zrun zP sv C 277 6 [l0, l1, l2, l3] (v :: st) h) := zx_getf rfl rfl
theorem zs_277_6 : zrun zP sv C 277 6 [l0, l1, l2, l3] st h = zrun zP sv C 277 7 [l0, l1, l2, l3] (.int (nI 1) :: st) h := zx_go rfl rfl
theorem zs_277_7 : zrun zP sv C 277 7 [l0, l1, l2, l3] (.int x :: .ref a :: st) h = zael (h.1 a) 20 x (fun v => zrun zP sv C 277 8 [l0, l1, l2, l3] (v :: st) h) := zx_ald rfl rfl
theorem zs_277_8 : zrun zP sv C 277 8 [l0, l1, l2, l3] [v2, v1, .ref b] h = zrc (h.1 b) 13 (zbk (C 272 [.ref b, v1, v2] h) (fun v h' => zrun zP sv C 277 11 [l0, l1, l2, l3] (v.toList ++ []) h') (fun E h' => some (.inr E, h'))) := zx_cv (x0 := 13) rfl rfl rfl rfl rfl ⟨Nat.le_of_ble_eq_true rfl, rfl⟩ (fun _ _ => rfl)
theorem zs_277_11 : zrun zP sv C 277 11 [l0, l1, l2, l3] (.int x :: st) h = if x = 0 then zrun zP sv C 277 32 [l0, l1, l2, l3] st h else zrun zP sv C 277 14 [l0, l1, l2, l3] st h := (zx_if rfl rfl).trans zc0_if
theorem zs_277_14 : zrun zP sv C 277 14 [l0, l1, .val (.int x), l3] st h = zrun zP sv C 277 15 [l0, l1, .val (.int x), l3] (.int x :: st) h := zx_go rfl rfl
theorem zs_277_15 : zrun zP sv C 277 15 [l0, l1, l2, l3] st h = zrun zP sv C 277 16 [l0, l1, l2, l3] (.int 0 :: st) h := zx_go rfl rfl
theorem zs_277_16 : zrun zP sv C 277 16 [.val (.ref a), l1, l2, l3] st h = zrun zP sv C 277 17 [.val (.ref a), l1, l2, l3] (.ref a :: st) h := zx_go rfl rfl
theorem zs_277_17 : zrun zP sv C 277 17 [l0, l1, l2, l3] (.ref a :: st) h = zfld (h.1 a) 13 19 (fun v => zrun zP sv C 277 20 [l0, l1, l2, l3] (v :: st) h) := zx_getf rfl rfl
theorem zs_277_20 : zrun zP sv C 277 20 [l0, l1, l2, l3] st h = zrun zP sv C 277 21 [l0, l1, l2, l3] (.int (nI 1) :: st) h := zx_go rfl rfl
theorem zs_277_21 : zrun zP sv C 277 21 [l0, l1, l2, l3] (.int y :: .int x :: st) h = zrun zP sv C 277 22 [l0, l1, l2, l3] (.int (x - y) :: st) h := zx_go rfl rfl
theorem zs_277_22 : zrun zP sv C 277 22 [l0, l1, l2, l3] [v2, v1, v0] h = zbk (C 199 [v0, v1, v2] h) (fun v h' => zrun zP sv C 277 25 [l0, l1, l2, l3] (v.toList ++ []) h') (fun E h' => some (.inr E, h')) := zx_cs rfl rfl rfl rfl ⟨Nat.le_of_ble_eq_true rfl, rfl⟩ (fun _ _ => rfl)
theorem zs_277_25 : zrun zP sv C 277 25 [l0, l1, l2, l3] (.int x :: st) h = if x = 0 then zrun zP sv C 277 32 [l0, l1, l2, l3] st h else zrun zP sv C 277 28 [l0, l1, l2, l3] st h := (zx_if rfl rfl).trans zc0_if
theorem zs_277_28 : zrun zP sv C 277 28 [l0, l1, l2, l3] st h = zrun zP sv C 277 29 [l0, l1, l2, l3] (.int (nI 1) :: st) h := zx_go rfl rfl
theorem zs_277_29 : zrun zP sv C 277 29 [l0, l1, l2, l3] st h = zrun zP sv C 277 33 [l0, l1, l2, l3] st h := zx_go rfl rfl
theorem zs_277_32 : zrun zP sv C 277 32 [l0, l1, l2, l3] st h = zrun zP sv C 277 33 [l0, l1, l2, l3] (.int 0 :: st) h := zx_go rfl rfl
theorem zs_277_33 (hs : znw l3 = true) : zrun zP sv C 277 33 [l0, l1, l2, l3] (.int x :: st) h = zrun zP sv C 277 34 [l0, l1, l2, .val (.int x)] st h := zx_st hs rfl rfl rfl rfl rfl rfl
theorem zs_277_34 : zrun zP sv C 277 34 [.val (.ref a), l1, l2, l3] st h = zrun zP sv C 277 35 [.val (.ref a), l1, l2, l3] (.ref a :: st) h := zx_go rfl rfl
theorem zs_277_35 : zrun zP sv C 277 35 [l0, l1, l2, .val (.int x)] st h = zrun zP sv C 277 36 [l0, l1, l2, .val (.int x)] (.int x :: st) h := zx_go rfl rfl
theorem zs_277_36 : zrun zP sv C 277 36 [l0, l1, l2, l3] (.int x :: st) h = if x = 0 then zrun zP sv C 277 43 [l0, l1, l2, l3] st h else zrun zP sv C 277 39 [l0, l1, l2, l3] st h := (zx_if rfl rfl).trans zc0_if
theorem zs_277_39 : zrun zP sv C 277 39 [l0, l1, l2, l3] st h = zrun zP sv C 277 40 [l0, l1, l2, l3] (.int 0 :: st) h := zx_go rfl rfl
theorem zs_277_40 : zrun zP sv C 277 40 [l0, l1, l2, l3] st h = zrun zP sv C 277 44 [l0, l1, l2, l3] st h := zx_go rfl rfl
theorem zs_277_43 : zrun zP sv C 277 43 [l0, l1, l2, l3] st h = zrun zP sv C 277 44 [l0, l1, l2, l3] (.int (nI 1) :: st) h := zx_go rfl rfl
theorem zs_277_44 : zrun zP sv C 277 44 [l0, l1, l2, l3] (.int x :: .ref a :: st) h = zpfd (h.1 a) 13 31 0 (.int x) (fun c => zrun zP sv C 277 47 [l0, l1, l2, l3] st (zup h a c)) := zx_putf (x0 := 0) rfl rfl
theorem zs_277_47 : zrun zP sv C 277 47 [l0, l1, l2, .val (.int x)] st h = zrun zP sv C 277 48 [l0, l1, l2, .val (.int x)] (.int x :: st) h := zx_go rfl rfl
theorem zs_277_48 : zrun zP sv C 277 48 [l0, l1, l2, l3] [.int x] h = zgd (zty 5 (.int x)) (some (.inl (some (.int x)), h)) := zx_rt rfl
theorem zs_278_0 : zrun zP sv C 278 0 [.val (.ref a), l1, l2] st h = zrun zP sv C 278 1 [.val (.ref a), l1, l2] (.ref a :: st) h := zx_go rfl rfl
theorem zs_278_1 : zrun zP sv C 278 1 [l0, .val (.int x), l2] st h = zrun zP sv C 278 2 [l0, .val (.int x), l2] (.int x :: st) h := zx_go rfl rfl
theorem zs_278_2 : zrun zP sv C 278 2 [l0, l1, .val (.int x)] st h = zrun zP sv C 278 3 [l0, l1, .val (.int x)] (.int x :: st) h := zx_go rfl rfl
theorem zs_278_3 : zrun zP sv C 278 3 [l0, l1, l2] [v2, v1, .ref b] h = zrc (h.1 b) 13 (zbk (C 277 [.ref b, v1, v2] h) (fun v h' => zrun zP sv C 278 6 [l0, l1, l2] (v.toList ++ []) h') (fun E h' => some (.inr E, h'))) := zx_cv (x0 := 13) rfl rfl rfl rfl rfl ⟨Nat.le_of_ble_eq_true rfl, rfl⟩ (fun _ _ => rfl)
theorem zs_278_6 : zrun zP sv C 278 6 [l0, l1, l2] (.int x :: st) h = if x = 0 then zrun zP sv C 278 18 [l0, l1, l2] st h else zrun zP sv C 278 9 [l0, l1, l2] st h := (zx_if rfl rfl).trans zc0_if
theorem zs_278_9 : zrun zP sv C 278 9 [.val (.ref a), l1, l2] st h = zrun zP sv C 278 10 [.val (.ref a), l1, l2] (.ref a :: st) h := zx_go rfl rfl
theorem zs_278_10 : zrun zP sv C 278 10 [l0, l1, l2] (.ref a :: st) h = zfld (h.1 a) 13 15 (fun v => zrun zP sv C 278 13 [l0, l1, l2] (v :: st) h) := zx_getf rfl rfl
theorem zs_278_13 : zrun zP sv C 278 13 [l0, l1, .val (.int x)] st h = zrun zP sv C 278 14 [l0, l1, .val (.int x)] (.int x :: st) h := zx_go rfl rfl
theorem zs_278_14 : zrun zP sv C 278 14 [l0, l1, l2] (.int x :: .ref a :: st) h = zael (h.1 a) 21 x (fun v => zrun zP sv C 278 15 [l0, l1, l2] (v :: st) h) := zx_ald rfl rfl
theorem zs_278_15 : zrun zP sv C 278 15 [l0, l1, l2] st h = zrun zP sv C 278 20 [l0, l1, l2] st h := zx_go rfl rfl
theorem zs_278_18 : zrun zP sv C 278 18 [l0, l1, l2] st h = zrun zP sv C 278 20 [l0, l1, l2] (.int (nI 97) :: st) h := zx_go rfl rfl
theorem zs_278_20 : zrun zP sv C 278 20 [l0, l1, l2] [.int x] h = zgd (zty 7 (.int x)) (some (.inl (some (.int x)), h)) := zx_rt rfl
theorem zs_279_0 : zrun zP sv C 279 0 [.val (.ref a), l1, l2] st h = zrun zP sv C 279 1 [.val (.ref a), l1, l2] (.ref a :: st) h := zx_go rfl rfl
theorem zs_279_1 : zrun zP sv C 279 1 [l0, .val (.int x), l2] st h = zrun zP sv C 279 2 [l0, .val (.int x), l2] (.int x :: st) h := zx_go rfl rfl
theorem zs_279_2 : zrun zP sv C 279 2 [l0, l1, .val (.int x)] st h = zrun zP sv C 279 3 [l0, l1, .val (.int x)] (.int x :: st) h := zx_go rfl rfl
theorem zs_279_3 : zrun zP sv C 279 3 [l0, l1, l2] [v2, v1, .ref b] h = zrc (h.1 b) 13 (zbk (C 277 [.ref b, v1, v2] h) (fun v h' => zrun zP sv C 279 6 [l0, l1, l2] (v.toList ++ []) h') (fun E h' => some (.inr E, h'))) := zx_cv (x0 := 13) rfl rfl rfl rfl rfl ⟨Nat.le_of_ble_eq_true rfl, rfl⟩ (fun _ _ => rfl)
theorem zs_279_6 : zrun zP sv C 279 6 [l0, l1, l2] (.int x :: st) h = if x = 0 then zrun zP sv C 279 18 [l0, l1, l2] st h else zrun zP sv C 279 9 [l0, l1, l2] st h := (zx_if rfl rfl).trans zc0_if
theorem zs_279_9 : zrun zP sv C 279 9 [.val (.ref a), l1, l2] st h = zrun zP sv C 279 10 [.val (.ref a), l1, l2] (.ref a :: st) h := zx_go rfl rfl
theorem zs_279_10 : zrun zP sv C 279 10 [l0, l1, l2] (.ref a :: st) h = zfld (h.1 a) 13 16 (fun v => zrun zP sv C 279 13 [l0, l1, l2] (v :: st) h) := zx_getf rfl rfl
theorem zs_279_13 : zrun zP sv C 279 13 [l0, l1, .val (.int x)] st h = zrun zP sv C 279 14 [l0, l1, .val (.int x)] (.int x :: st) h := zx_go rfl rfl
theorem zs_279_14 : zrun zP sv C 279 14 [l0, l1, l2] (.int x :: .ref a :: st) h = zael (h.1 a) 20 x (fun v => zrun zP sv C 279 15 [l0, l1, l2] (v :: st) h) := zx_ald rfl rfl
theorem zs_279_15 : zrun zP sv C 279 15 [l0, l1, l2] st h = zrun zP sv C 279 19 [l0, l1, l2] st h := zx_go rfl rfl
theorem zs_279_18 : zrun zP sv C 279 18 [l0, l1, l2] st h = zrun zP sv C 279 19 [l0, l1, l2] (.int 0 :: st) h := zx_go rfl rfl
theorem zs_279_19 : zrun zP sv C 279 19 [l0, l1, l2] [.int x] h = some (.inl (some (.int x)), h) := zx_end rfl rfl
theorem zs_280_0 : zrun zP sv C 280 0 [.val (.ref a), l1] st h = zrun zP sv C 280 1 [.val (.ref a), l1] (.ref a :: st) h := zx_go rfl rfl
theorem zs_280_1 : zrun zP sv C 280 1 [l0, l1] (.ref a :: st) h = zfld (h.1 a) 13 23 (fun v => zrun zP sv C 280 4 [l0, l1] (v :: st) h) := zx_getf rfl rfl
theorem zs_280_4 : zrun zP sv C 280 4 [.val (.ref a), l1] st h = zrun zP sv C 280 5 [.val (.ref a), l1] (.ref a :: st) h := zx_go rfl rfl
theorem zs_280_5 : zrun zP sv C 280 5 [l0, l1] (.ref a :: st) h = zrun zP sv C 280 6 [l0, l1] (.ref a :: .ref a :: st) h := zx_go rfl rfl
theorem zs_280_6 : zrun zP sv C 280 6 [l0, l1] (.ref a :: st) h = zfld (h.1 a) 13 24 (fun v => zrun zP sv C 280 9 [l0, l1] (v :: st) h) := zx_getf rfl rfl
theorem zs_280_9 : zrun zP sv C 280 9 [l0, l1] (.int x :: .ref b :: st) h = zrun zP sv C 280 10 [l0, l1] (.int x :: .ref b :: .int x :: st) h := zx_go rfl rfl
theorem zs_280_10 : zrun zP sv C 280 10 [l0, l1] st h = zrun zP sv C 280 11 [l0, l1] (.int (nI 1) :: st) h := zx_go rfl rfl
theorem zs_280_11 : zrun zP sv C 280 11 [l0, l1] (.int y :: .int x :: st) h = zrun zP sv C 280 12 [l0, l1] (.int (x + y) :: st) h := zx_go rfl rfl
theorem zs_280_12 : zrun zP sv C 280 12 [l0, l1] (.int x :: .ref a :: st) h = zpfd (h.1 a) 13 24 0 (.int x) (fun c => zrun zP sv C 280 15 [l0, l1] st (zup h a c)) := zx_putf (x0 := 0) rfl rfl
theorem zs_280_15 : zrun zP sv C 280 15 [l0, .val (.int x)] st h = zrun zP sv C 280 16 [l0, .val (.int x)] (.int x :: st) h := zx_go rfl rfl
theorem zs_280_16 : zrun zP sv C 280 16 [l0, l1] (.int y :: .int x :: .ref a :: st) h = zaset (h.1 a) 21 x (.int y) (fun c => zrun zP sv C 280 17 [l0, l1] st (zup h a c)) := zx_ast rfl rfl
theorem zs_280_17 : zrun zP sv C 280 17 [l0, l1] [] h = some (.inl none, h) := zx_end rfl rfl
theorem zs_281_0 : zrun zP sv C 281 0 [l0, .val (.long xl), l2] st h = zrun zP sv C 281 1 [l0, .val (.long xl), l2] (.long xl :: st) h := zx_go rfl rfl
theorem zs_281_1 : zrun zP sv C 281 1 [l0, l1, l2] st h = zrun zP sv C 281 4 [l0, l1, l2] (.long (9) :: st) h := zx_go rfl rfl
theorem zs_281_4 : zrun zP sv C 281 4 [l0, l1, l2] (.long yl :: .long xl :: st) h = zrun zP sv C 281 5 [l0, l1, l2] (.int (lg_cmp xl yl) :: st) h := zx_go rfl rfl
theorem zs_281_5 : zrun zP sv C 281 5 [l0, l1, l2] (.int x :: st) h = if 0 < x then zrun zP sv C 281 8 [l0, l1, l2] st h else zrun zP sv C 281 17 [l0, l1, l2] st h := (zx_if rfl rfl).trans zc5_if
theorem zs_281_8 : zrun zP sv C 281 8 [.val (.ref a), l1, l2] st h = zrun zP sv C 281 9 [.val (.ref a), l1, l2] (.ref a :: st) h := zx_go rfl rfl
theorem zs_281_9 : zrun zP sv C 281 9 [l0, .val (.long xl), l2] st h = zrun zP sv C 281 10 [l0, .val (.long xl), l2] (.long xl :: st) h := zx_go rfl rfl
theorem zs_281_10 : zrun zP sv C 281 10 [l0, l1, l2] st h = zrun zP sv C 281 13 [l0, l1, l2] (.long (10) :: st) h := zx_go rfl rfl
theorem zs_281_13 : zrun zP sv C 281 13 [l0, l1, l2] (.long (10) :: .long xl :: st) h = zrun zP sv C 281 14 [l0, l1, l2] (.long (xl / (10)) :: st) h := zx_go rfl rfl
theorem zs_281_14 : zrun zP sv C 281 14 [l0, l1, l2] [v1, .ref b] h = zrc (h.1 b) 13 (zbk (C 281 [.ref b, v1] h) (fun v h' => zrun zP sv C 281 17 [l0, l1, l2] (v.toList ++ []) h') (fun E h' => some (.inr E, h'))) := zx_cv (x0 := 13) rfl rfl rfl rfl rfl ⟨Nat.le_of_ble_eq_true rfl, rfl⟩ (fun _ _ => rfl)
theorem zs_281_17 : zrun zP sv C 281 17 [.val (.ref a), l1, l2] st h = zrun zP sv C 281 18 [.val (.ref a), l1, l2] (.ref a :: st) h := zx_go rfl rfl
theorem zs_281_18 : zrun zP sv C 281 18 [l0, l1, l2] st h = zrun zP sv C 281 21 [l0, l1, l2] (.long (48) :: st) h := zx_go rfl rfl
theorem zs_281_21 : zrun zP sv C 281 21 [l0, .val (.long xl), l2] st h = zrun zP sv C 281 22 [l0, .val (.long xl), l2] (.long xl :: st) h := zx_go rfl rfl
theorem zs_281_22 : zrun zP sv C 281 22 [l0, l1, l2] st h = zrun zP sv C 281 25 [l0, l1, l2] (.long (10) :: st) h := zx_go rfl rfl
theorem zs_281_25 : zrun zP sv C 281 25 [l0, l1, l2] (.long (10) :: .long xl :: st) h = zrun zP sv C 281 26 [l0, l1, l2] (.long (xl - xl / (10) * (10)) :: st) h := zx_go rfl rfl
theorem zs_281_26 : zrun zP sv C 281 26 [l0, l1, l2] (.long yl :: .long xl :: st) h = zrun zP sv C 281 27 [l0, l1, l2] (.long (xl + yl) :: st) h := zx_go rfl rfl
theorem zs_281_27 : zrun zP sv C 281 27 [l0, l1, l2] (.long xl :: st) h = zrun zP sv C 281 28 [l0, l1, l2] (.int xl.toInt32 :: st) h := zx_go rfl rfl
theorem zs_281_28 : zrun zP sv C 281 28 [l0, l1, l2] (.int x :: st) h = zrun zP sv C 281 29 [l0, l1, l2] (.int (x.toUInt32 % 65536).toInt32 :: st) h := zx_go rfl rfl
theorem zs_281_29 : zrun zP sv C 281 29 [l0, l1, l2] [v1, .ref b] h = zrc (h.1 b) 13 (zbk (C 280 [.ref b, v1] h) (fun v h' => zrun zP sv C 281 32 [l0, l1, l2] (v.toList ++ []) h') (fun E h' => some (.inr E, h'))) := zx_cv (x0 := 13) rfl rfl rfl rfl rfl ⟨Nat.le_of_ble_eq_true rfl, rfl⟩ (fun _ _ => rfl)
theorem zs_281_32 : zrun zP sv C 281 32 [l0, l1, l2] [] h = some (.inl none, h) := zx_end rfl rfl
theorem zs_282_0 : zrun zP sv C 282 0 [l0, .val (.int x)] st h = zrun zP sv C 282 1 [l0, .val (.int x)] (.int x :: st) h := zx_go rfl rfl
theorem zs_282_1 : zrun zP sv C 282 1 [l0, l1] (.int x :: st) h = if x < 0 then zrun zP sv C 282 4 [l0, l1] st h else zrun zP sv C 282 10 [l0, l1] st h := (zx_if rfl rfl).trans zc3_if
theorem zs_282_4 : zrun zP sv C 282 4 [.val (.ref a), l1] st h = zrun zP sv C 282 5 [.val (.ref a), l1] (.ref a :: st) h := zx_go rfl rfl
theorem zs_282_5 : zrun zP sv C 282 5 [l0, l1] st h = zrun zP sv C 282 7 [l0, l1] (.int (nI 45) :: st) h := zx_go rfl rfl
theorem zs_282_7 : zrun zP sv C 282 7 [l0, l1] [v1, .ref b] h = zrc (h.1 b) 13 (zbk (C 280 [.ref b, v1] h) (fun v h' => zrun zP sv C 282 10 [l0, l1] (v.toList ++ []) h') (fun E h' => some (.inr E, h'))) := zx_cv (x0 := 13) rfl rfl rfl rfl rfl ⟨Nat.le_of_ble_eq_true rfl, rfl⟩ (fun _ _ => rfl)
theorem zs_282_10 : zrun zP sv C 282 10 [.val (.ref a), l1] st h = zrun zP sv C 282 11 [.val (.ref a), l1] (.ref a :: st) h := zx_go rfl rfl
theorem zs_282_11 : zrun zP sv C 282 11 [l0, .val (.int x)] st h = zrun zP sv C 282 12 [l0, .val (.int x)] (.int x :: st) h := zx_go rfl rfl
theorem zs_282_12 : zrun zP sv C 282 12 [l0, l1] (.int x :: st) h = zrun zP sv C 282 13 [l0, l1] (.long x.toInt64 :: st) h := zx_go rfl rfl
theorem zs_282_13 : zrun zP sv C 282 13 [l0, l1] [.long xl, r0] h = zrun zP sv C 282 16 [l0, l1] [.long (if 0 < xl then xl else -xl), r0] h := zx_go rfl rfl
theorem zs_282_16 : zrun zP sv C 282 16 [l0, l1] [v1, .ref b] h = zrc (h.1 b) 13 (zbk (C 281 [.ref b, v1] h) (fun v h' => zrun zP sv C 282 19 [l0, l1] (v.toList ++ []) h') (fun E h' => some (.inr E, h'))) := zx_cv (x0 := 13) rfl rfl rfl rfl rfl ⟨Nat.le_of_ble_eq_true rfl, rfl⟩ (fun _ _ => rfl)
theorem zs_282_19 : zrun zP sv C 282 19 [l0, l1] [] h = some (.inl none, h) := zx_end rfl rfl
theorem zs_283_0 : zrun zP sv C 283 0 [.val (.ref a), l1] st h = zrun zP sv C 283 1 [.val (.ref a), l1] (.ref a :: st) h := zx_go rfl rfl
theorem zs_283_1 : zrun zP sv C 283 1 [l0, .val (.int x)] st h = zrun zP sv C 283 2 [l0, .val (.int x)] (.int x :: st) h := zx_go rfl rfl
theorem zs_283_2 : zrun zP sv C 283 2 [l0, l1] st h = zrun zP sv C 283 4 [l0, l1] (.int (nI 10) :: st) h := zx_go rfl rfl
theorem zs_283_4 : zrun zP sv C 283 4 [l0, l1] (.int y :: .int x :: st) h = if x < y then zrun zP sv C 283 7 [l0, l1] st h else zrun zP sv C 283 12 [l0, l1] st h := (zx_ic rfl rfl).trans zc3_if
theorem zs_283_7 : zrun zP sv C 283 7 [l0, l1] st h = zrun zP sv C 283 9 [l0, l1] (.int (nI 114) :: st) h := zx_go rfl rfl
theorem zs_283_9 : zrun zP sv C 283 9 [l0, l1] st h = zrun zP sv C 283 14 [l0, l1] st h := zx_go rfl rfl
theorem zs_283_12 : zrun zP sv C 283 12 [l0, l1] st h = zrun zP sv C 283 14 [l0, l1] (.int (nI 109) :: st) h := zx_go rfl rfl
theorem zs_283_14 : zrun zP sv C 283 14 [l0, l1] [v1, .ref b] h = zrc (h.1 b) 13 (zbk (C 280 [.ref b, v1] h) (fun v h' => zrun zP sv C 283 17 [l0, l1] (v.toList ++ []) h') (fun E h' => some (.inr E, h'))) := zx_cv (x0 := 13) rfl rfl rfl rfl rfl ⟨Nat.le_of_ble_eq_true rfl, rfl⟩ (fun _ _ => rfl)
theorem zs_283_17 : zrun zP sv C 283 17 [.val (.ref a), l1] st h = zrun zP sv C 283 18 [.val (.ref a), l1] (.ref a :: st) h := zx_go rfl rfl
theorem zs_283_18 : zrun zP sv C 283 18 [l0, .val (.int x)] st h = zrun zP sv C 283 19 [l0, .val (.int x)] (.int x :: st) h := zx_go rfl rfl
theorem zs_283_19 : zrun zP sv C 283 19 [l0, l1] st h = zrun zP sv C 283 21 [l0, l1] (.int (nI 10) :: st) h := zx_go rfl rfl
theorem zs_283_21 : zrun zP sv C 283 21 [l0, l1] (.int (nI 10) :: .int x :: st) h = zrun zP sv C 283 22 [l0, l1] (.int (x - x / (nI 10) * (nI 10)) :: st) h := zx_go rfl rfl
theorem zs_283_22 : zrun zP sv C 283 22 [l0, l1] (.int x :: st) h = zrun zP sv C 283 23 [l0, l1] (.long x.toInt64 :: st) h := zx_go rfl rfl
theorem zs_283_23 : zrun zP sv C 283 23 [l0, l1] [v1, .ref b] h = zrc (h.1 b) 13 (zbk (C 281 [.ref b, v1] h) (fun v h' => zrun zP sv C 283 26 [l0, l1] (v.toList ++ []) h') (fun E h' => some (.inr E, h'))) := zx_cv (x0 := 13) rfl rfl rfl rfl rfl ⟨Nat.le_of_ble_eq_true rfl, rfl⟩ (fun _ _ => rfl)
theorem zs_283_26 : zrun zP sv C 283 26 [l0, l1] [] h = some (.inl none, h) := zx_end rfl rfl
theorem zs_284_0 : zrun zP sv C 284 0 [.val (.ref a), l1, l2, l3] st h = zrun zP sv C 284 1 [.val (.ref a), l1, l2, l3] (.ref a :: st) h := zx_go rfl rfl
theorem zs_284_1 : zrun zP sv C 284 1 [l0, .val (.int x), l2, l3] st h = zrun zP sv C 284 2 [l0, .val (.int x), l2, l3] (.int x :: st) h := zx_go rfl rfl
theorem zs_284_2 : zrun zP sv C 284 2 [l0, l1, .val (.int x), l3] st h = zrun zP sv C 284 3 [l0, l1, .val (.int x), l3] (.int x :: st) h := zx_go rfl rfl
theorem zs_284_3 : zrun zP sv C 284 3 [l0, l1, l2, l3] [v2, v1, .ref b] h = zrc (h.1 b) 13 (zbk (C 277 [.ref b, v1, v2] h) (fun v h' => zrun zP sv C 284 6 [l0, l1, l2, l3] (v.toList ++ []) h') (fun E h' => some (.inr E, h'))) := zx_cv (x0 := 13) rfl rfl rfl rfl rfl ⟨Nat.le_of_ble_eq_true rfl, rfl⟩ (fun _ _ => rfl)
theorem zs_284_6 : zrun zP sv C 284 6 [l0, l1, l2, l3] (.int x :: st) h = if x = 0 then zrun zP sv C 284 9 [l0, l1, l2, l3] st h else zrun zP sv C 284 11 [l0, l1, l2, l3] st h := (zx_if rfl rfl).trans zc1_if
theorem zs_284_9 : zrun zP sv C 284 9 [l0, l1, l2, l3] st h = zrun zP sv C 284 10 [l0, l1, l2, l3] (.int 0 :: st) h := zx_go rfl rfl
theorem zs_284_10 : zrun zP sv C 284 10 [l0, l1, l2, l3] [.int x] h = some (.inl (some (.int x)), h) := zx_end rfl rfl
theorem zs_284_11 : zrun zP sv C 284 11 [.val (.ref a), l1, l2, l3] st h = zrun zP sv C 284 12 [.val (.ref a), l1, l2, l3] (.ref a :: st) h := zx_go rfl rfl
theorem zs_284_12 : zrun zP sv C 284 12 [l0, l1, l2, l3] st h = zrun zP sv C 284 13 [l0, l1, l2, l3] (.int 0 :: st) h := zx_go rfl rfl
theorem zs_284_13 : zrun zP sv C 284 13 [l0, l1, l2, l3] (.int x :: .ref a :: st) h = zpfd (h.1 a) 13 24 0 (.int x) (fun c => zrun zP sv C 284 16 [l0, l1, l2, l3] st (zup h a c)) := zx_putf (x0 := 0) rfl rfl
theorem zs_284_16 : zrun zP sv C 284 16 [.val (.ref a), l1, l2, l3] st h = zrun zP sv C 284 17 [.val (.ref a), l1, l2, l3] (.ref a :: st) h := zx_go rfl rfl
theorem zs_284_17 : zrun zP sv C 284 17 [l0, l1, l2, l3] (.ref a :: st) h = zfld (h.1 a) 13 15 (fun v => zrun zP sv C 284 20 [l0, l1, l2, l3] (v :: st) h) := zx_getf rfl rfl
theorem zs_284_20 : zrun zP sv C 284 20 [l0, l1, .val (.int x), l3] st h = zrun zP sv C 284 21 [l0, l1, .val (.int x), l3] (.int x :: st) h := zx_go rfl rfl
theorem zs_284_21 : zrun zP sv C 284 21 [l0, l1, l2, l3] (.int x :: .ref a :: st) h = zael (h.1 a) 21 x (fun v => zrun zP sv C 284 22 [l0, l1, l2, l3] (v :: st) h) := zx_ald rfl rfl
theorem zs_284_22 (hs : znw l3 = true) : zrun zP sv C 284 22 [l0, l1, l2, l3] (.int x :: st) h = zrun zP sv C 284 23 [l0, l1, l2, .val (.int x)] st h := zx_st hs rfl rfl rfl rfl rfl rfl
theorem zs_284_23 : zrun zP sv C 284 23 [.val (.ref a), l1, l2, l3] st h = zrun zP sv C 284 24 [.val (.ref a), l1, l2, l3] (.ref a :: st) h := zx_go rfl rfl
theorem zs_284_24 : zrun zP sv C 284 24 [l0, l1, l2, .val (.int x)] st h = zrun zP sv C 284 25 [l0, l1, l2, .val (.int x)] (.int x :: st) h := zx_go rfl rfl
theorem zs_284_25 : zrun zP sv C 284 25 [l0, l1, l2, l3] st h = zrun zP sv C 284 27 [l0, l1, l2, l3] (.int (nI 115) :: st) h := zx_go rfl rfl
theorem zs_284_27 : zrun zP sv C 284 27 [l0, l1, l2, l3] (.int y :: .int x :: st) h = if x = y then zrun zP sv C 284 30 [l0, l1, l2, l3] st h else zrun zP sv C 284 42 [l0, l1, l2, l3] st h := (zx_ic rfl rfl).trans zc1_if
theorem zs_284_30 : zrun zP sv C 284 30 [l0, l1, l2, l3] st h = zrun zP sv C 284 32 [l0, l1, l2, l3] (.int (nI 10) :: st) h := zx_go rfl rfl
theorem zs_284_32 : zrun zP sv C 284 32 [.val (.ref a), l1, l2, l3] st h = zrun zP sv C 284 33 [.val (.ref a), l1, l2, l3] (.ref a :: st) h := zx_go rfl rfl
theorem zs_284_33 : zrun zP sv C 284 33 [l0, l1, l2, l3] (.ref a :: st) h = zfld (h.1 a) 13 17 (fun v => zrun zP sv C 284 36 [l0, l1, l2, l3] (v :: st) h) := zx_getf rfl rfl
theorem zs_284_36 : zrun zP sv C 284 36 [l0, l1, .val (.int x), l3] st h = zrun zP sv C 284 37 [l0, l1, .val (.int x), l3] (.int x :: st) h := zx_go rfl rfl
theorem zs_284_37 : zrun zP sv C 284 37 [l0, l1, l2, l3] (.int x :: .ref a :: st) h = zael (h.1 a) 20 x (fun v => zrun zP sv C 284 38 [l0, l1, l2, l3] (v :: st) h) := zx_ald rfl rfl
theorem zs_284_38 : zrun zP sv C 284 38 [l0, l1, l2, l3] (.int y :: .int x :: st) h = zrun zP sv C 284 39 [l0, l1, l2, l3] (.int (x + y) :: st) h := zx_go rfl rfl
theorem zs_284_39 : zrun zP sv C 284 39 [l0, l1, l2, l3] st h = zrun zP sv C 284 48 [l0, l1, l2, l3] st h := zx_go rfl rfl
theorem zs_284_42 : zrun zP sv C 284 42 [.val (.ref a), l1, l2, l3] st h = zrun zP sv C 284 43 [.val (.ref a), l1, l2, l3] (.ref a :: st) h := zx_go rfl rfl
theorem zs_284_43 : zrun zP sv C 284 43 [l0, l1, l2, l3] (.ref a :: st) h = zfld (h.1 a) 13 16 (fun v => zrun zP sv C 284 46 [l0, l1, l2, l3] (v :: st) h) := zx_getf rfl rfl
theorem zs_284_46 : zrun zP sv C 284 46 [l0, l1, .val (.int x), l3] st h = zrun zP sv C 284 47 [l0, l1, .val (.int x), l3] (.int x :: st) h := zx_go rfl rfl
theorem zs_284_47 : zrun zP sv C 284 47 [l0, l1, l2, l3] (.int x :: .ref a :: st) h = zael (h.1 a) 20 x (fun v => zrun zP sv C 284 48 [l0, l1, l2, l3] (v :: st) h) := zx_ald rfl rfl
theorem zs_284_48 : zrun zP sv C 284 48 [l0, l1, l2, l3] [v1, .ref b] h = zrc (h.1 b) 13 (zbk (C 283 [.ref b, v1] h) (fun v h' => zrun zP sv C 284 51 [l0, l1, l2, l3] (v.toList ++ []) h') (fun E h' => some (.inr E, h'))) := zx_cv (x0 := 13) rfl rfl rfl rfl rfl ⟨Nat.le_of_ble_eq_true rfl, rfl⟩ (fun _ _ => rfl)
theorem zs_284_51 : zrun zP sv C 284 51 [.val (.ref a), l1, l2, l3] st h = zrun zP sv C 284 52 [.val (.ref a), l1, l2, l3] (.ref a :: st) h := zx_go rfl rfl
theorem zs_284_52 : zrun zP sv C 284 52 [l0, l1, l2, l3] st h = zrun zP sv C 284 54 [l0, l1, l2, l3] (.int (nI 61) :: st) h := zx_go rfl rfl
theorem zs_284_54 : zrun zP sv C 284 54 [l0, l1, l2, l3] [v1, .ref b] h = zrc (h.1 b) 13 (zbk (C 280 [.ref b, v1] h) (fun v h' => zrun zP sv C 284 57 [l0, l1, l2, l3] (v.toList ++ []) h') (fun E h' => some (.inr E, h'))) := zx_cv (x0 := 13) rfl rfl rfl rfl rfl ⟨Nat.le_of_ble_eq_true rfl, rfl⟩ (fun _ _ => rfl)
theorem zs_284_57 : zrun zP sv C 284 57 [l0, l1, l2, .val (.int x)] st h = zrun zP sv C 284 58 [l0, l1, l2, .val (.int x)] (.int x :: st) h := zx_go rfl rfl
theorem zs_284_58 : zrun zP sv C 284 58 [l0, l1, l2, l3] st h = zrun zP sv C 284 60 [l0, l1, l2, l3] (.int (nI 99) :: st) h := zx_go rfl rfl
theorem zs_284_60 : zrun zP sv C 284 60 [l0, l1, l2, l3] (.int y :: .int x :: st) h = if x = y then zrun zP sv C 284 63 [l0, l1, l2, l3] st h else zrun zP sv C 284 76 [l0, l1, l2, l3] st h := (zx_ic rfl rfl).trans zc1_if
theorem zs_284_63 : zrun zP sv C 284 63 [.val (.ref a), l1, l2, l3] st h = zrun zP sv C 284 64 [.val (.ref a), l1, l2, l3] (.ref a :: st) h := zx_go rfl rfl
theorem zs_284_64 : zrun zP sv C 284 64 [.val (.ref a), l1, l2, l3] st h = zrun zP sv C 284 65 [.val (.ref a), l1, l2, l3] (.ref a :: st) h := zx_go rfl rfl
theorem zs_284_65 : zrun zP sv C 284 65 [l0, l1, l2, l3] (.ref a :: st) h = zfld (h.1 a) 13 17 (fun v => zrun zP sv C 284 68 [l0, l1, l2, l3] (v :: st) h) := zx_getf rfl rfl
theorem zs_284_68 : zrun zP sv C 284 68 [l0, l1, .val (.int x), l3] st h = zrun zP sv C 284 69 [l0, l1, .val (.int x), l3] (.int x :: st) h := zx_go rfl rfl
theorem zs_284_69 : zrun zP sv C 284 69 [l0, l1, l2, l3] (.int x :: .ref a :: st) h = zael (h.1 a) 20 x (fun v => zrun zP sv C 284 70 [l0, l1, l2, l3] (v :: st) h) := zx_ald rfl rfl
theorem zs_284_70 : zrun zP sv C 284 70 [l0, l1, l2, l3] [v1, .ref b] h = zrc (h.1 b) 13 (zbk (C 282 [.ref b, v1] h) (fun v h' => zrun zP sv C 284 73 [l0, l1, l2, l3] (v.toList ++ []) h') (fun E h' => some (.inr E, h'))) := zx_cv (x0 := 13) rfl rfl rfl rfl rfl ⟨Nat.le_of_ble_eq_true rfl, rfl⟩ (fun _ _ => rfl)
theorem zs_284_73 : zrun zP sv C 284 73 [l0, l1, l2, l3] st h = zrun zP sv C 284 167 [l0, l1, l2, l3] st h := zx_go rfl rfl
theorem zs_284_76 : zrun zP sv C 284 76 [l0, l1, l2, .val (.int x)] st h = zrun zP sv C 284 77 [l0, l1, l2, .val (.int x)] (.int x :: st) h := zx_go rfl rfl
theorem zs_284_77 : zrun zP sv C 284 77 [l0, l1, l2, l3] st h = zrun zP sv C 284 79 [l0, l1, l2, l3] (.int (nI 118) :: st) h := zx_go rfl rfl
theorem zs_284_79 : zrun zP sv C 284 79 [l0, l1, l2, l3] (.int y :: .int x :: st) h = if x = y then zrun zP sv C 284 82 [l0, l1, l2, l3] st h else zrun zP sv C 284 99 [l0, l1, l2, l3] st h := (zx_ic rfl rfl).trans zc1_if
theorem zs_284_82 : zrun zP sv C 284 82 [.val (.ref a), l1, l2, l3] st h = zrun zP sv C 284 83 [.val (.ref a), l1, l2, l3] (.ref a :: st) h := zx_go rfl rfl
theorem zs_284_83 : zrun zP sv C 284 83 [l0, l1, l2, l3] st h = zrun zP sv C 284 85 [l0, l1, l2, l3] (.int (nI 97) :: st) h := zx_go rfl rfl
theorem zs_284_85 : zrun zP sv C 284 85 [.val (.ref a), l1, l2, l3] st h = zrun zP sv C 284 86 [.val (.ref a), l1, l2, l3] (.ref a :: st) h := zx_go rfl rfl
theorem zs_284_86 : zrun zP sv C 284 86 [l0, l1, l2, l3] (.ref a :: st) h = zfld (h.1 a) 13 17 (fun v => zrun zP sv C 284 89 [l0, l1, l2, l3] (v :: st) h) := zx_getf rfl rfl
theorem zs_284_89 : zrun zP sv C 284 89 [l0, l1, .val (.int x), l3] st h = zrun zP sv C 284 90 [l0, l1, .val (.int x), l3] (.int x :: st) h := zx_go rfl rfl
theorem zs_284_90 : zrun zP sv C 284 90 [l0, l1, l2, l3] (.int x :: .ref a :: st) h = zael (h.1 a) 20 x (fun v => zrun zP sv C 284 91 [l0, l1, l2, l3] (v :: st) h) := zx_ald rfl rfl
theorem zs_284_91 : zrun zP sv C 284 91 [l0, l1, l2, l3] (.int y :: .int x :: st) h = zrun zP sv C 284 92 [l0, l1, l2, l3] (.int (x + y) :: st) h := zx_go rfl rfl
theorem zs_284_92 : zrun zP sv C 284 92 [l0, l1, l2, l3] (.int x :: st) h = zrun zP sv C 284 93 [l0, l1, l2, l3] (.int (x.toUInt32 % 65536).toInt32 :: st) h := zx_go rfl rfl
theorem zs_284_93 : zrun zP sv C 284 93 [l0, l1, l2, l3] [v1, .ref b] h = zrc (h.1 b) 13 (zbk (C 280 [.ref b, v1] h) (fun v h' => zrun zP sv C 284 96 [l0, l1, l2, l3] (v.toList ++ []) h') (fun E h' => some (.inr E, h'))) := zx_cv (x0 := 13) rfl rfl rfl rfl rfl ⟨Nat.le_of_ble_eq_true rfl, rfl⟩ (fun _ _ => rfl)
theorem zs_284_96 : zrun zP sv C 284 96 [l0, l1, l2, l3] st h = zrun zP sv C 284 167 [l0, l1, l2, l3] st h := zx_go rfl rfl
theorem zs_284_99 : zrun zP sv C 284 99 [l0, l1, l2, .val (.int x)] st h = zrun zP sv C 284 100 [l0, l1, l2, .val (.int x)] (.int x :: st) h := zx_go rfl rfl
theorem zs_284_100 : zrun zP sv C 284 100 [l0, l1, l2, l3] st h = zrun zP sv C 284 102 [l0, l1, l2, l3] (.int (nI 115) :: st) h := zx_go rfl rfl
theorem zs_284_102 : zrun zP sv C 284 102 [l0, l1, l2, l3] (.int y :: .int x :: st) h = if x = y then zrun zP sv C 284 105 [l0, l1, l2, l3] st h else zrun zP sv C 284 118 [l0, l1, l2, l3] st h := (zx_ic rfl rfl).trans zc1_if
theorem zs_284_105 : zrun zP sv C 284 105 [.val (.ref a), l1, l2, l3] st h = zrun zP sv C 284 106 [.val (.ref a), l1, l2, l3] (.ref a :: st) h := zx_go rfl rfl
theorem zs_284_106 : zrun zP sv C 284 106 [.val (.ref a), l1, l2, l3] st h = zrun zP sv C 284 107 [.val (.ref a), l1, l2, l3] (.ref a :: st) h := zx_go rfl rfl
theorem zs_284_107 : zrun zP sv C 284 107 [l0, l1, l2, l3] (.ref a :: st) h = zfld (h.1 a) 13 16 (fun v => zrun zP sv C 284 110 [l0, l1, l2, l3] (v :: st) h) := zx_getf rfl rfl
theorem zs_284_110 : zrun zP sv C 284 110 [l0, l1, .val (.int x), l3] st h = zrun zP sv C 284 111 [l0, l1, .val (.int x), l3] (.int x :: st) h := zx_go rfl rfl
theorem zs_284_111 : zrun zP sv C 284 111 [l0, l1, l2, l3] (.int x :: .ref a :: st) h = zael (h.1 a) 20 x (fun v => zrun zP sv C 284 112 [l0, l1, l2, l3] (v :: st) h) := zx_ald rfl rfl
theorem zs_284_112 : zrun zP sv C 284 112 [l0, l1, l2, l3] [v1, .ref b] h = zrc (h.1 b) 13 (zbk (C 283 [.ref b, v1] h) (fun v h' => zrun zP sv C 284 115 [l0, l1, l2, l3] (v.toList ++ []) h') (fun E h' => some (.inr E, h'))) := zx_cv (x0 := 13) rfl rfl rfl rfl rfl ⟨Nat.le_of_ble_eq_true rfl, rfl⟩ (fun _ _ => rfl)
theorem zs_284_115 : zrun zP sv C 284 115 [l0, l1, l2, l3] st h = zrun zP sv C 284 167 [l0, l1, l2, l3] st h := zx_go rfl rfl
theorem zs_284_118 : zrun zP sv C 284 118 [l0, l1, l2, .val (.int x)] st h = zrun zP sv C 284 119 [l0, l1, l2, .val (.int x)] (.int x :: st) h := zx_go rfl rfl
theorem zs_284_119 : zrun zP sv C 284 119 [l0, l1, l2, l3] st h = zrun zP sv C 284 121 [l0, l1, l2, l3] (.int (nI 110) :: st) h := zx_go rfl rfl
theorem zs_284_121 : zrun zP sv C 284 121 [l0, l1, l2, l3] (.int y :: .int x :: st) h = if x = y then zrun zP sv C 284 124 [l0, l1, l2, l3] st h else zrun zP sv C 284 130 [l0, l1, l2, l3] st h := (zx_ic rfl rfl).trans zc1_if
theorem zs_284_124 : zrun zP sv C 284 124 [.val (.ref a), l1, l2, l3] st h = zrun zP sv C 284 125 [.val (.ref a), l1, l2, l3] (.ref a :: st) h := zx_go rfl rfl
theorem zs_284_125 : zrun zP sv C 284 125 [l0, l1, l2, l3] st h = zrun zP sv C 284 127 [l0, l1, l2, l3] (.int (nI 45) :: st) h := zx_go rfl rfl
theorem zs_284_127 : zrun zP sv C 284 127 [l0, l1, l2, l3] [v1, .ref b] h = zrc (h.1 b) 13 (zbk (C 280 [.ref b, v1] h) (fun v h' => zrun zP sv C 284 130 [l0, l1, l2, l3] (v.toList ++ []) h') (fun E h' => some (.inr E, h'))) := zx_cv (x0 := 13) rfl rfl rfl rfl rfl ⟨Nat.le_of_ble_eq_true rfl, rfl⟩ (fun _ _ => rfl)
theorem zs_284_130 : zrun zP sv C 284 130 [.val (.ref a), l1, l2, l3] st h = zrun zP sv C 284 131 [.val (.ref a), l1, l2, l3] (.ref a :: st) h := zx_go rfl rfl
theorem zs_284_131 : zrun zP sv C 284 131 [.val (.ref a), l1, l2, l3] st h = zrun zP sv C 284 132 [.val (.ref a), l1, l2, l3] (.ref a :: st) h := zx_go rfl rfl
theorem zs_284_132 : zrun zP sv C 284 132 [l0, l1, l2, l3] (.ref a :: st) h = zfld (h.1 a) 13 17 (fun v => zrun zP sv C 284 135 [l0, l1, l2, l3] (v :: st) h) := zx_getf rfl rfl
theorem zs_284_135 : zrun zP sv C 284 135 [l0, l1, .val (.int x), l3] st h = zrun zP sv C 284 136 [l0, l1, .val (.int x), l3] (.int x :: st) h := zx_go rfl rfl
theorem zs_284_136 : zrun zP sv C 284 136 [l0, l1, l2, l3] (.int x :: .ref a :: st) h = zael (h.1 a) 20 x (fun v => zrun zP sv C 284 137 [l0, l1, l2, l3] (v :: st) h) := zx_ald rfl rfl
theorem zs_284_137 : zrun zP sv C 284 137 [l0, l1, l2, l3] [v1, .ref b] h = zrc (h.1 b) 13 (zbk (C 283 [.ref b, v1] h) (fun v h' => zrun zP sv C 284 140 [l0, l1, l2, l3] (v.toList ++ []) h') (fun E h' => some (.inr E, h'))) := zx_cv (x0 := 13) rfl rfl rfl rfl rfl ⟨Nat.le_of_ble_eq_true rfl, rfl⟩ (fun _ _ => rfl)
theorem zs_284_140 : zrun zP sv C 284 140 [l0, l1, l2, .val (.int x)] st h = zrun zP sv C 284 141 [l0, l1, l2, .val (.int x)] (.int x :: st) h := zx_go rfl rfl
theorem zs_284_141 : zrun zP sv C 284 141 [l0, l1, l2, l3] st h = zrun zP sv C 284 143 [l0, l1, l2, l3] (.int (nI 110) :: st) h := zx_go rfl rfl
theorem zs_284_143 : zrun zP sv C 284 143 [l0, l1, l2, l3] (.int y :: .int x :: st) h = if x = y then zrun zP sv C 284 151 [l0, l1, l2, l3] st h else zrun zP sv C 284 146 [l0, l1, l2, l3] st h := (zx_ic rfl rfl).trans zc0_if
theorem zs_284_146 : zrun zP sv C 284 146 [.val (.ref a), l1, l2, l3] st h = zrun zP sv C 284 147 [.val (.ref a), l1, l2, l3] (.ref a :: st) h := zx_go rfl rfl
theorem zs_284_147 : zrun zP sv C 284 147 [l0, l1, l2, .val (.int x)] st h = zrun zP sv C 284 148 [l0, l1, l2, .val (.int x)] (.int x :: st) h := zx_go rfl rfl
theorem zs_284_148 : zrun zP sv C 284 148 [l0, l1, l2, l3] [v1, .ref b] h = zrc (h.1 b) 13 (zbk (C 280 [.ref b, v1] h) (fun v h' => zrun zP sv C 284 151 [l0, l1, l2, l3] (v.toList ++ []) h') (fun E h' => some (.inr E, h'))) := zx_cv (x0 := 13) rfl rfl rfl rfl rfl ⟨Nat.le_of_ble_eq_true rfl, rfl⟩ (fun _ _ => rfl)
theorem zs_284_151 : zrun zP sv C 284 151 [l0, l1, l2, .val (.int x)] st h = zrun zP sv C 284 152 [l0, l1, l2, .val (.int x)] (.int x :: st) h := zx_go rfl rfl
theorem zs_284_152 : zrun zP sv C 284 152 [l0, l1, l2, l3] st h = zrun zP sv C 284 154 [l0, l1, l2, l3] (.int (nI 110) :: st) h := zx_go rfl rfl
theorem zs_284_154 : zrun zP sv C 284 154 [l0, l1, l2, l3] (.int y :: .int x :: st) h = if x = y then zrun zP sv C 284 167 [l0, l1, l2, l3] st h else zrun zP sv C 284 157 [l0, l1, l2, l3] st h := (zx_ic rfl rfl).trans zc0_if
theorem zs_284_157 : zrun zP sv C 284 157 [.val (.ref a), l1, l2, l3] st h = zrun zP sv C 284 158 [.val (.ref a), l1, l2, l3] (.ref a :: st) h := zx_go rfl rfl
theorem zs_284_158 : zrun zP sv C 284 158 [.val (.ref a), l1, l2, l3] st h = zrun zP sv C 284 159 [.val (.ref a), l1, l2, l3] (.ref a :: st) h := zx_go rfl rfl
theorem zs_284_159 : zrun zP sv C 284 159 [l0, l1, l2, l3] (.ref a :: st) h = zfld (h.1 a) 13 18 (fun v => zrun zP sv C 284 162 [l0, l1, l2, l3] (v :: st) h) := zx_getf rfl rfl
theorem zs_284_162 : zrun zP sv C 284 162 [l0, l1, .val (.int x), l3] st h = zrun zP sv C 284 163 [l0, l1, .val (.int x), l3] (.int x :: st) h := zx_go rfl rfl
theorem zs_284_163 : zrun zP sv C 284 163 [l0, l1, l2, l3] (.int x :: .ref a :: st) h = zael (h.1 a) 20 x (fun v => zrun zP sv C 284 164 [l0, l1, l2, l3] (v :: st) h) := zx_ald rfl rfl
theorem zs_284_164 : zrun zP sv C 284 164 [l0, l1, l2, l3] [v1, .ref b] h = zrc (h.1 b) 13 (zbk (C 283 [.ref b, v1] h) (fun v h' => zrun zP sv C 284 167 [l0, l1, l2, l3] (v.toList ++ []) h') (fun E h' => some (.inr E, h'))) := zx_cv (x0 := 13) rfl rfl rfl rfl rfl ⟨Nat.le_of_ble_eq_true rfl, rfl⟩ (fun _ _ => rfl)
theorem zs_284_167 : zrun zP sv C 284 167 [.val (.ref a), l1, l2, l3] st h = zrun zP sv C 284 168 [.val (.ref a), l1, l2, l3] (.ref a :: st) h := zx_go rfl rfl
theorem zs_284_168 : zrun zP sv C 284 168 [l0, l1, l2, l3] (.ref a :: st) h = zfld (h.1 a) 13 24 (fun v => zrun zP sv C 284 171 [l0, l1, l2, l3] (v :: st) h) := zx_getf rfl rfl
theorem zs_284_171 : zrun zP sv C 284 171 [l0, l1, l2, l3] [.int x] h = some (.inl (some (.int x)), h) := zx_end rfl rfl
theorem zs_285_0 : zrun zP sv C 285 0 [.val (.ref a), l1, l2, l3, l4, l5] st h = zrun zP sv C 285 1 [.val (.ref a), l1, l2, l3, l4, l5] (.ref a :: st) h := zx_go rfl rfl
theorem zs_285_1 : zrun zP sv C 285 1 [l0, l1, l2, l3, l4, l5] (.ref a :: st) h = zfld (h.1 a) 13 6 (fun v => zrun zP sv C 285 4 [l0, l1, l2, l3, l4, l5] (v :: st) h) := zx_getf rfl rfl
theorem zs_285_4 : zrun zP sv C 285 4 [l0, .val (.int x), l2, l3, l4, l5] st h = zrun zP sv C 285 5 [l0, .val (.int x), l2, l3, l4, l5] (.int x :: st) h := zx_go rfl rfl
theorem zs_285_5 : zrun zP sv C 285 5 [l0, l1, l2, l3, l4, l5] (.int x :: .ref a :: st) h = zael (h.1 a) 21 x (fun v => zrun zP sv C 285 6 [l0, l1, l2, l3, l4, l5] (v :: st) h) := zx_ald rfl rfl
theorem zs_285_6 (hs : znw l3 = true) : zrun zP sv C 285 6 [l0, l1, l2, l3, l4, l5] (.int x :: st) h = zrun zP sv C 285 7 [l0, l1, l2, .val (.int x), l4, l5] st h := zx_st hs rfl rfl rfl rfl rfl rfl
theorem zs_285_7 : zrun zP sv C 285 7 [l0, l1, l2, .val (.int x), l4, l5] st h = zrun zP sv C 285 8 [l0, l1, l2, .val (.int x), l4, l5] (.int x :: st) h := zx_go rfl rfl
theorem zs_285_8 : zrun zP sv C 285 8 [l0, l1, l2, l3, l4, l5] st h = zrun zP sv C 285 10 [l0, l1, l2, l3, l4, l5] (.int (nI 43) :: st) h := zx_go rfl rfl
theorem zs_285_10 : zrun zP sv C 285 10 [l0, l1, l2, l3, l4, l5] (.int y :: .int x :: st) h = if x = y then zrun zP sv C 285 19 [l0, l1, l2, l3, l4, l5] st h else zrun zP sv C 285 13 [l0, l1, l2, l3, l4, l5] st h := (zx_ic rfl rfl).trans zc0_if
theorem zs_285_13 : zrun zP sv C 285 13 [l0, l1, l2, .val (.int x), l4, l5] st h = zrun zP sv C 285 14 [l0, l1, l2, .val (.int x), l4, l5] (.int x :: st) h := zx_go rfl rfl
theorem zs_285_14 : zrun zP sv C 285 14 [l0, l1, l2, l3, l4, l5] st h = zrun zP sv C 285 16 [l0, l1, l2, l3, l4, l5] (.int (nI 45) :: st) h := zx_go rfl rfl
theorem zs_285_16 : zrun zP sv C 285 16 [l0, l1, l2, l3, l4, l5] (.int y :: .int x :: st) h = if x = y then zrun zP sv C 285 19 [l0, l1, l2, l3, l4, l5] st h else zrun zP sv C 285 23 [l0, l1, l2, l3, l4, l5] st h := (zx_ic rfl rfl).trans zc1_if
theorem zs_285_19 : zrun zP sv C 285 19 [l0, l1, l2, l3, l4, l5] st h = zrun zP sv C 285 20 [l0, l1, l2, l3, l4, l5] (.int (nI 1) :: st) h := zx_go rfl rfl
theorem zs_285_20 : zrun zP sv C 285 20 [l0, l1, l2, l3, l4, l5] st h = zrun zP sv C 285 34 [l0, l1, l2, l3, l4, l5] st h := zx_go rfl rfl
theorem zs_285_23 : zrun zP sv C 285 23 [l0, l1, l2, .val (.int x), l4, l5] st h = zrun zP sv C 285 24 [l0, l1, l2, .val (.int x), l4, l5] (.int x :: st) h := zx_go rfl rfl
theorem zs_285_24 : zrun zP sv C 285 24 [l0, l1, l2, l3, l4, l5] st h = zrun zP sv C 285 26 [l0, l1, l2, l3, l4, l5] (.int (nI 42) :: st) h := zx_go rfl rfl
theorem zs_285_26 : zrun zP sv C 285 26 [l0, l1, l2, l3, l4, l5] (.int y :: .int x :: st) h = if x = y then zrun zP sv C 285 29 [l0, l1, l2, l3, l4, l5] st h else zrun zP sv C 285 33 [l0, l1, l2, l3, l4, l5] st h := (zx_ic rfl rfl).trans zc1_if
theorem zs_285_29 : zrun zP sv C 285 29 [l0, l1, l2, l3, l4, l5] st h = zrun zP sv C 285 30 [l0, l1, l2, l3, l4, l5] (.int (nI 2) :: st) h := zx_go rfl rfl
theorem zs_285_30 : zrun zP sv C 285 30 [l0, l1, l2, l3, l4, l5] st h = zrun zP sv C 285 34 [l0, l1, l2, l3, l4, l5] st h := zx_go rfl rfl
theorem zs_285_33 : zrun zP sv C 285 33 [l0, l1, l2, l3, l4, l5] st h = zrun zP sv C 285 34 [l0, l1, l2, l3, l4, l5] (.int (nI 3) :: st) h := zx_go rfl rfl
theorem zs_285_34 (hs : znw l4 = true) : zrun zP sv C 285 34 [l0, l1, l2, l3, l4, l5] (.int x :: st) h = zrun zP sv C 285 36 [l0, l1, l2, l3, .val (.int x), l5] st h := zx_st hs rfl rfl rfl rfl rfl rfl
theorem zs_285_36 : zrun zP sv C 285 36 [l0, l1, l2, l3, .val (.int x), l5] st h = zrun zP sv C 285 38 [l0, l1, l2, l3, .val (.int x), l5] (.int x :: st) h := zx_go rfl rfl
theorem zs_285_38 : zrun zP sv C 285 38 [l0, l1, .val (.int x), l3, l4, l5] st h = zrun zP sv C 285 39 [l0, l1, .val (.int x), l3, l4, l5] (.int x :: st) h := zx_go rfl rfl
theorem zs_285_39 : zrun zP sv C 285 39 [l0, l1, l2, l3, l4, l5] (.int y :: .int x :: st) h = if x < y then zrun zP sv C 285 42 [l0, l1, l2, l3, l4, l5] st h else zrun zP sv C 285 48 [l0, l1, l2, l3, l4, l5] st h := (zx_ic rfl rfl).trans zc3_if
theorem zs_285_42 : zrun zP sv C 285 42 [.val (.ref a), l1, l2, l3, l4, l5] st h = zrun zP sv C 285 43 [.val (.ref a), l1, l2, l3, l4, l5] (.ref a :: st) h := zx_go rfl rfl
theorem zs_285_43 : zrun zP sv C 285 43 [l0, l1, l2, l3, l4, l5] st h = zrun zP sv C 285 45 [l0, l1, l2, l3, l4, l5] (.int (nI 40) :: st) h := zx_go rfl rfl
theorem zs_285_45 : zrun zP sv C 285 45 [l0, l1, l2, l3, l4, l5] [v1, .ref b] h = zrc (h.1 b) 13 (zbk (C 280 [.ref b, v1] h) (fun v h' => zrun zP sv C 285 48 [l0, l1, l2, l3, l4, l5] (v.toList ++ []) h') (fun E h' => some (.inr E, h'))) := zx_cv (x0 := 13) rfl rfl rfl rfl rfl ⟨Nat.le_of_ble_eq_true rfl, rfl⟩ (fun _ _ => rfl)
theorem zs_285_48 : zrun zP sv C 285 48 [l0, .val (.int x), l2, l3, l4, l5] st h = zrun zP sv C 285 49 [l0, .val (.int x), l2, l3, l4, l5] (.int x :: st) h := zx_go rfl rfl
theorem zs_285_49 : zrun zP sv C 285 49 [l0, l1, l2, l3, l4, l5] st h = zrun zP sv C 285 50 [l0, l1, l2, l3, l4, l5] (.int (nI 1) :: st) h := zx_go rfl rfl
theorem zs_285_50 : zrun zP sv C 285 50 [l0, l1, l2, l3, l4, l5] (.int y :: .int x :: st) h = zrun zP sv C 285 51 [l0, l1, l2, l3, l4, l5] (.int (x + y) :: st) h := zx_go rfl rfl
theorem zs_285_51 (hs : znw l5 = true) : zrun zP sv C 285 51 [l0, l1, l2, l3, l4, l5] (.int x :: st) h = zrun zP sv C 285 53 [l0, l1, l2, l3, l4, .val (.int x)] st h := zx_st hs rfl rfl rfl rfl rfl rfl
theorem zs_285_53 : zrun zP sv C 285 53 [l0, l1, l2, .val (.int x), l4, l5] st h = zrun zP sv C 285 54 [l0, l1, l2, .val (.int x), l4, l5] (.int x :: st) h := zx_go rfl rfl
theorem zs_285_54 : zrun zP sv C 285 54 [l0, l1, l2, l3, l4, l5] st h = zrun zP sv C 285 56 [l0, l1, l2, l3, l4, l5] (.int (nI 99) :: st) h := zx_go rfl rfl
theorem zs_285_56 : zrun zP sv C 285 56 [l0, l1, l2, l3, l4, l5] (.int y :: .int x :: st) h = if x = y then zrun zP sv C 285 59 [l0, l1, l2, l3, l4, l5] st h else zrun zP sv C 285 72 [l0, l1, l2, l3, l4, l5] st h := (zx_ic rfl rfl).trans zc1_if
theorem zs_285_59 : zrun zP sv C 285 59 [.val (.ref a), l1, l2, l3, l4, l5] st h = zrun zP sv C 285 60 [.val (.ref a), l1, l2, l3, l4, l5] (.ref a :: st) h := zx_go rfl rfl
theorem zs_285_60 : zrun zP sv C 285 60 [.val (.ref a), l1, l2, l3, l4, l5] st h = zrun zP sv C 285 61 [.val (.ref a), l1, l2, l3, l4, l5] (.ref a :: st) h := zx_go rfl rfl
theorem zs_285_61 : zrun zP sv C 285 61 [l0, l1, l2, l3, l4, l5] (.ref a :: st) h = zfld (h.1 a) 13 7 (fun v => zrun zP sv C 285 64 [l0, l1, l2, l3, l4, l5] (v :: st) h) := zx_getf rfl rfl
theorem zs_285_64 : zrun zP sv C 285 64 [l0, .val (.int x), l2, l3, l4, l5] st h = zrun zP sv C 285 65 [l0, .val (.int x), l2, l3, l4, l5] (.int x :: st) h := zx_go rfl rfl
theorem zs_285_65 : zrun zP sv C 285 65 [l0, l1, l2, l3, l4, l5] (.int x :: .ref a :: st) h = zael (h.1 a) 20 x (fun v => zrun zP sv C 285 66 [l0, l1, l2, l3, l4, l5] (v :: st) h) := zx_ald rfl rfl
theorem zs_285_66 : zrun zP sv C 285 66 [l0, l1, l2, l3, l4, l5] [v1, .ref b] h = zrc (h.1 b) 13 (zbk (C 282 [.ref b, v1] h) (fun v h' => zrun zP sv C 285 69 [l0, l1, l2, l3, l4, l5] (v.toList ++ []) h') (fun E h' => some (.inr E, h'))) := zx_cv (x0 := 13) rfl rfl rfl rfl rfl ⟨Nat.le_of_ble_eq_true rfl, rfl⟩ (fun _ _ => rfl)
theorem zs_285_69 : zrun zP sv C 285 69 [l0, l1, l2, l3, l4, l5] st h = zrun zP sv C 285 146 [l0, l1, l2, l3, l4, l5] st h := zx_go rfl rfl
theorem zs_285_72 : zrun zP sv C 285 72 [l0, l1, l2, .val (.int x), l4, l5] st h = zrun zP sv C 285 73 [l0, l1, l2, .val (.int x), l4, l5] (.int x :: st) h := zx_go rfl rfl
theorem zs_285_73 : zrun zP sv C 285 73 [l0, l1, l2, l3, l4, l5] st h = zrun zP sv C 285 75 [l0, l1, l2, l3, l4, l5] (.int (nI 118) :: st) h := zx_go rfl rfl
theorem zs_285_75 : zrun zP sv C 285 75 [l0, l1, l2, l3, l4, l5] (.int y :: .int x :: st) h = if x = y then zrun zP sv C 285 78 [l0, l1, l2, l3, l4, l5] st h else zrun zP sv C 285 95 [l0, l1, l2, l3, l4, l5] st h := (zx_ic rfl rfl).trans zc1_if
theorem zs_285_78 : zrun zP sv C 285 78 [.val (.ref a), l1, l2, l3, l4, l5] st h = zrun zP sv C 285 79 [.val (.ref a), l1, l2, l3, l4, l5] (.ref a :: st) h := zx_go rfl rfl
theorem zs_285_79 : zrun zP sv C 285 79 [l0, l1, l2, l3, l4, l5] st h = zrun zP sv C 285 81 [l0, l1, l2, l3, l4, l5] (.int (nI 97) :: st) h := zx_go rfl rfl
theorem zs_285_81 : zrun zP sv C 285 81 [.val (.ref a), l1, l2, l3, l4, l5] st h = zrun zP sv C 285 82 [.val (.ref a), l1, l2, l3, l4, l5] (.ref a :: st) h := zx_go rfl rfl
theorem zs_285_82 : zrun zP sv C 285 82 [l0, l1, l2, l3, l4, l5] (.ref a :: st) h = zfld (h.1 a) 13 7 (fun v => zrun zP sv C 285 85 [l0, l1, l2, l3, l4, l5] (v :: st) h) := zx_getf rfl rfl
theorem zs_285_85 : zrun zP sv C 285 85 [l0, .val (.int x), l2, l3, l4, l5] st h = zrun zP sv C 285 86 [l0, .val (.int x), l2, l3, l4, l5] (.int x :: st) h := zx_go rfl rfl
theorem zs_285_86 : zrun zP sv C 285 86 [l0, l1, l2, l3, l4, l5] (.int x :: .ref a :: st) h = zael (h.1 a) 20 x (fun v => zrun zP sv C 285 87 [l0, l1, l2, l3, l4, l5] (v :: st) h) := zx_ald rfl rfl
theorem zs_285_87 : zrun zP sv C 285 87 [l0, l1, l2, l3, l4, l5] (.int y :: .int x :: st) h = zrun zP sv C 285 88 [l0, l1, l2, l3, l4, l5] (.int (x + y) :: st) h := zx_go rfl rfl
theorem zs_285_88 : zrun zP sv C 285 88 [l0, l1, l2, l3, l4, l5] (.int x :: st) h = zrun zP sv C 285 89 [l0, l1, l2, l3, l4, l5] (.int (x.toUInt32 % 65536).toInt32 :: st) h := zx_go rfl rfl
theorem zs_285_89 : zrun zP sv C 285 89 [l0, l1, l2, l3, l4, l5] [v1, .ref b] h = zrc (h.1 b) 13 (zbk (C 280 [.ref b, v1] h) (fun v h' => zrun zP sv C 285 92 [l0, l1, l2, l3, l4, l5] (v.toList ++ []) h') (fun E h' => some (.inr E, h'))) := zx_cv (x0 := 13) rfl rfl rfl rfl rfl ⟨Nat.le_of_ble_eq_true rfl, rfl⟩ (fun _ _ => rfl)
theorem zs_285_92 : zrun zP sv C 285 92 [l0, l1, l2, l3, l4, l5] st h = zrun zP sv C 285 146 [l0, l1, l2, l3, l4, l5] st h := zx_go rfl rfl
theorem zs_285_95 : zrun zP sv C 285 95 [l0, l1, l2, .val (.int x), l4, l5] st h = zrun zP sv C 285 96 [l0, l1, l2, .val (.int x), l4, l5] (.int x :: st) h := zx_go rfl rfl
theorem zs_285_96 : zrun zP sv C 285 96 [l0, l1, l2, l3, l4, l5] st h = zrun zP sv C 285 98 [l0, l1, l2, l3, l4, l5] (.int (nI 110) :: st) h := zx_go rfl rfl
theorem zs_285_98 : zrun zP sv C 285 98 [l0, l1, l2, l3, l4, l5] (.int y :: .int x :: st) h = if x = y then zrun zP sv C 285 101 [l0, l1, l2, l3, l4, l5] st h else zrun zP sv C 285 119 [l0, l1, l2, l3, l4, l5] st h := (zx_ic rfl rfl).trans zc1_if
theorem zs_285_101 : zrun zP sv C 285 101 [.val (.ref a), l1, l2, l3, l4, l5] st h = zrun zP sv C 285 102 [.val (.ref a), l1, l2, l3, l4, l5] (.ref a :: st) h := zx_go rfl rfl
theorem zs_285_102 : zrun zP sv C 285 102 [l0, l1, l2, l3, l4, l5] st h = zrun zP sv C 285 104 [l0, l1, l2, l3, l4, l5] (.int (nI 45) :: st) h := zx_go rfl rfl
theorem zs_285_104 : zrun zP sv C 285 104 [l0, l1, l2, l3, l4, l5] [v1, .ref b] h = zrc (h.1 b) 13 (zbk (C 280 [.ref b, v1] h) (fun v h' => zrun zP sv C 285 107 [l0, l1, l2, l3, l4, l5] (v.toList ++ []) h') (fun E h' => some (.inr E, h'))) := zx_cv (x0 := 13) rfl rfl rfl rfl rfl ⟨Nat.le_of_ble_eq_true rfl, rfl⟩ (fun _ _ => rfl)
theorem zs_285_107 : zrun zP sv C 285 107 [.val (.ref a), l1, l2, l3, l4, l5] st h = zrun zP sv C 285 108 [.val (.ref a), l1, l2, l3, l4, l5] (.ref a :: st) h := zx_go rfl rfl
theorem zs_285_108 : zrun zP sv C 285 108 [l0, l1, l2, l3, l4, .val (.int x)] st h = zrun zP sv C 285 110 [l0, l1, l2, l3, l4, .val (.int x)] (.int x :: st) h := zx_go rfl rfl
theorem zs_285_110 : zrun zP sv C 285 110 [l0, l1, l2, l3, l4, l5] st h = zrun zP sv C 285 111 [l0, l1, l2, l3, l4, l5] (.int (nI 3) :: st) h := zx_go rfl rfl
theorem zs_285_111 : zrun zP sv C 285 111 [l0, l1, l2, l3, l4, l5] [v2, v1, .ref b] h = zrc (h.1 b) 13 (zbk (C 285 [.ref b, v1, v2] h) (fun v h' => zrun zP sv C 285 114 [l0, l1, l2, l3, l4, l5] (v.toList ++ []) h') (fun E h' => some (.inr E, h'))) := zx_cv (x0 := 13) rfl rfl rfl rfl rfl ⟨Nat.le_of_ble_eq_true rfl, rfl⟩ (fun _ _ => rfl)
theorem zs_285_114 (hs : znw l5 = true) : zrun zP sv C 285 114 [l0, l1, l2, l3, l4, l5] (.int x :: st) h = zrun zP sv C 285 116 [l0, l1, l2, l3, l4, .val (.int x)] st h := zx_st hs rfl rfl rfl rfl rfl rfl
theorem zs_285_116 : zrun zP sv C 285 116 [l0, l1, l2, l3, l4, l5] st h = zrun zP sv C 285 146 [l0, l1, l2, l3, l4, l5] st h := zx_go rfl rfl
theorem zs_285_119 : zrun zP sv C 285 119 [.val (.ref a), l1, l2, l3, l4, l5] st h = zrun zP sv C 285 120 [.val (.ref a), l1, l2, l3, l4, l5] (.ref a :: st) h := zx_go rfl rfl
theorem zs_285_120 : zrun zP sv C 285 120 [l0, l1, l2, l3, l4, .val (.int x)] st h = zrun zP sv C 285 122 [l0, l1, l2, l3, l4, .val (.int x)] (.int x :: st) h := zx_go rfl rfl
theorem zs_285_122 : zrun zP sv C 285 122 [l0, l1, l2, l3, .val (.int x), l5] st h = zrun zP sv C 285 124 [l0, l1, l2, l3, .val (.int x), l5] (.int x :: st) h := zx_go rfl rfl
theorem zs_285_124 : zrun zP sv C 285 124 [l0, l1, l2, l3, l4, l5] [v2, v1, .ref b] h = zrc (h.1 b) 13 (zbk (C 285 [.ref b, v1, v2] h) (fun v h' => zrun zP sv C 285 127 [l0, l1, l2, l3, l4, l5] (v.toList ++ []) h') (fun E h' => some (.inr E, h'))) := zx_cv (x0 := 13) rfl rfl rfl rfl rfl ⟨Nat.le_of_ble_eq_true rfl, rfl⟩ (fun _ _ => rfl)
theorem zs_285_127 (hs : znw l5 = true) : zrun zP sv C 285 127 [l0, l1, l2, l3, l4, l5] (.int x :: st) h = zrun zP sv C 285 129 [l0, l1, l2, l3, l4, .val (.int x)] st h := zx_st hs rfl rfl rfl rfl rfl rfl
theorem zs_285_129 : zrun zP sv C 285 129 [.val (.ref a), l1, l2, l3, l4, l5] st h = zrun zP sv C 285 130 [.val (.ref a), l1, l2, l3, l4, l5] (.ref a :: st) h := zx_go rfl rfl
theorem zs_285_130 : zrun zP sv C 285 130 [l0, l1, l2, .val (.int x), l4, l5] st h = zrun zP sv C 285 131 [l0, l1, l2, .val (.int x), l4, l5] (.int x :: st) h := zx_go rfl rfl
theorem zs_285_131 : zrun zP sv C 285 131 [l0, l1, l2, l3, l4, l5] [v1, .ref b] h = zrc (h.1 b) 13 (zbk (C 280 [.ref b, v1] h) (fun v h' => zrun zP sv C 285 134 [l0, l1, l2, l3, l4, l5] (v.toList ++ []) h') (fun E h' => some (.inr E, h'))) := zx_cv (x0 := 13) rfl rfl rfl rfl rfl ⟨Nat.le_of_ble_eq_true rfl, rfl⟩ (fun _ _ => rfl)
theorem zs_285_134 : zrun zP sv C 285 134 [.val (.ref a), l1, l2, l3, l4, l5] st h = zrun zP sv C 285 135 [.val (.ref a), l1, l2, l3, l4, l5] (.ref a :: st) h := zx_go rfl rfl
theorem zs_285_135 : zrun zP sv C 285 135 [l0, l1, l2, l3, l4, .val (.int x)] st h = zrun zP sv C 285 137 [l0, l1, l2, l3, l4, .val (.int x)] (.int x :: st) h := zx_go rfl rfl
theorem zs_285_137 : zrun zP sv C 285 137 [l0, l1, l2, l3, .val (.int x), l5] st h = zrun zP sv C 285 139 [l0, l1, l2, l3, .val (.int x), l5] (.int x :: st) h := zx_go rfl rfl
theorem zs_285_139 : zrun zP sv C 285 139 [l0, l1, l2, l3, l4, l5] st h = zrun zP sv C 285 140 [l0, l1, l2, l3, l4, l5] (.int (nI 1) :: st) h := zx_go rfl rfl
theorem zs_285_140 : zrun zP sv C 285 140 [l0, l1, l2, l3, l4, l5] (.int y :: .int x :: st) h = zrun zP sv C 285 141 [l0, l1, l2, l3, l4, l5] (.int (x + y) :: st) h := zx_go rfl rfl
theorem zs_285_141 : zrun zP sv C 285 141 [l0, l1, l2, l3, l4, l5] [v2, v1, .ref b] h = zrc (h.1 b) 13 (zbk (C 285 [.ref b, v1, v2] h) (fun v h' => zrun zP sv C 285 144 [l0, l1, l2, l3, l4, l5] (v.toList ++ []) h') (fun E h' => some (.inr E, h'))) := zx_cv (x0 := 13) rfl rfl rfl rfl rfl ⟨Nat.le_of_ble_eq_true rfl, rfl⟩ (fun _ _ => rfl)
theorem zs_285_144 (hs : znw l5 = true) : zrun zP sv C 285 144 [l0, l1, l2, l3, l4, l5] (.int x :: st) h = zrun zP sv C 285 146 [l0, l1, l2, l3, l4, .val (.int x)] st h := zx_st hs rfl rfl rfl rfl rfl rfl
theorem zs_285_146 : zrun zP sv C 285 146 [l0, l1, l2, l3, .val (.int x), l5] st h = zrun zP sv C 285 148 [l0, l1, l2, l3, .val (.int x), l5] (.int x :: st) h := zx_go rfl rfl
theorem zs_285_148 : zrun zP sv C 285 148 [l0, l1, .val (.int x), l3, l4, l5] st h = zrun zP sv C 285 149 [l0, l1, .val (.int x), l3, l4, l5] (.int x :: st) h := zx_go rfl rfl
theorem zs_285_149 : zrun zP sv C 285 149 [l0, l1, l2, l3, l4, l5] (.int y :: .int x :: st) h = if x < y then zrun zP sv C 285 152 [l0, l1, l2, l3, l4, l5] st h else zrun zP sv C 285 158 [l0, l1, l2, l3, l4, l5] st h := (zx_ic rfl rfl).trans zc3_if
theorem zs_285_152 : zrun zP sv C 285 152 [.val (.ref a), l1, l2, l3, l4, l5] st h = zrun zP sv C 285 153 [.val (.ref a), l1, l2, l3, l4, l5] (.ref a :: st) h := zx_go rfl rfl
theorem zs_285_153 : zrun zP sv C 285 153 [l0, l1, l2, l3, l4, l5] st h = zrun zP sv C 285 155 [l0, l1, l2, l3, l4, l5] (.int (nI 41) :: st) h := zx_go rfl rfl
theorem zs_285_155 : zrun zP sv C 285 155 [l0, l1, l2, l3, l4, l5] [v1, .ref b] h = zrc (h.1 b) 13 (zbk (C 280 [.ref b, v1] h) (fun v h' => zrun zP sv C 285 158 [l0, l1, l2, l3, l4, l5] (v.toList ++ []) h') (fun E h' => some (.inr E, h'))) := zx_cv (x0 := 13) rfl rfl rfl rfl rfl ⟨Nat.le_of_ble_eq_true rfl, rfl⟩ (fun _ _ => rfl)
theorem zs_285_158 : zrun zP sv C 285 158 [l0, l1, l2, l3, l4, .val (.int x)] st h = zrun zP sv C 285 160 [l0, l1, l2, l3, l4, .val (.int x)] (.int x :: st) h := zx_go rfl rfl
theorem zs_285_160 : zrun zP sv C 285 160 [l0, l1, l2, l3, l4, l5] [.int x] h = some (.inl (some (.int x)), h) := zx_end rfl rfl
theorem zs_286_0 : zrun zP sv C 286 0 [.val (.ref a), l1, l2] st h = zrun zP sv C 286 1 [.val (.ref a), l1, l2] (.ref a :: st) h := zx_go rfl rfl
theorem zs_286_1 : zrun zP sv C 286 1 [l0, .val (.int x), l2] st h = zrun zP sv C 286 2 [l0, .val (.int x), l2] (.int x :: st) h := zx_go rfl rfl
theorem zs_286_2 : zrun zP sv C 286 2 [l0, l1, l2] [v1, .ref b] h = zrc (h.1 b) 13 (zbk (C 252 [.ref b, v1] h) (fun v h' => zrun zP sv C 286 5 [l0, l1, l2] (v.toList ++ []) h') (fun E h' => some (.inr E, h'))) := zx_cv (x0 := 13) rfl rfl rfl rfl rfl ⟨Nat.le_of_ble_eq_true rfl, rfl⟩ (fun _ _ => rfl)
theorem zs_286_5 : zrun zP sv C 286 5 [l0, l1, l2] (.int x :: st) h = if x = 0 then zrun zP sv C 286 8 [l0, l1, l2] st h else zrun zP sv C 286 10 [l0, l1, l2] st h := (zx_if rfl rfl).trans zc1_if
theorem zs_286_8 : zrun zP sv C 286 8 [l0, l1, l2] st h = zrun zP sv C 286 9 [l0, l1, l2] (.int 0 :: st) h := zx_go rfl rfl
theorem zs_286_9 : zrun zP sv C 286 9 [l0, l1, l2] [.int x] h = some (.inl (some (.int x)), h) := zx_end rfl rfl
theorem zs_286_10 : zrun zP sv C 286 10 [.val (.ref a), l1, l2] st h = zrun zP sv C 286 11 [.val (.ref a), l1, l2] (.ref a :: st) h := zx_go rfl rfl
theorem zs_286_11 : zrun zP sv C 286 11 [l0, l1, l2] st h = zrun zP sv C 286 12 [l0, l1, l2] (.int 0 :: st) h := zx_go rfl rfl
theorem zs_286_12 : zrun zP sv C 286 12 [l0, l1, l2] (.int x :: .ref a :: st) h = zpfd (h.1 a) 13 24 0 (.int x) (fun c => zrun zP sv C 286 15 [l0, l1, l2] st (zup h a c)) := zx_putf (x0 := 0) rfl rfl
theorem zs_286_15 : zrun zP sv C 286 15 [.val (.ref a), l1, l2] st h = zrun zP sv C 286 16 [.val (.ref a), l1, l2] (.ref a :: st) h := zx_go rfl rfl
theorem zs_286_16 : zrun zP sv C 286 16 [l0, l1, l2] st h = zrun zP sv C 286 17 [l0, l1, l2] (.int 0 :: st) h := zx_go rfl rfl
theorem zs_286_17 : zrun zP sv C 286 17 [l0, l1, l2] st h = zrun zP sv C 286 18 [l0, l1, l2] (.int (nI 1) :: st) h := zx_go rfl rfl
theorem zs_286_18 : zrun zP sv C 286 18 [l0, l1, l2] [v2, v1, .ref b] h = zrc (h.1 b) 13 (zbk (C 285 [.ref b, v1, v2] h) (fun v h' => zrun zP sv C 286 21 [l0, l1, l2] (v.toList ++ []) h') (fun E h' => some (.inr E, h'))) := zx_cv (x0 := 13) rfl rfl rfl rfl rfl ⟨Nat.le_of_ble_eq_true rfl, rfl⟩ (fun _ _ => rfl)
theorem zs_286_21 (hs : znw l2 = true) : zrun zP sv C 286 21 [l0, l1, l2] (.int x :: st) h = zrun zP sv C 286 22 [l0, l1, .val (.int x)] st h := zx_st hs rfl rfl rfl rfl rfl rfl
theorem zs_286_22 : zrun zP sv C 286 22 [.val (.ref a), l1, l2] st h = zrun zP sv C 286 23 [.val (.ref a), l1, l2] (.ref a :: st) h := zx_go rfl rfl
theorem zs_286_23 : zrun zP sv C 286 23 [l0, l1, l2] (.ref a :: st) h = zfld (h.1 a) 13 24 (fun v => zrun zP sv C 286 26 [l0, l1, l2] (v :: st) h) := zx_getf rfl rfl
theorem zs_286_26 : zrun zP sv C 286 26 [l0, l1, l2] [.int x] h = some (.inl (some (.int x)), h) := zx_end rfl rfl
theorem zs_287_0 : zrun zP sv C 287 0 [.val (.ref a), l1] st h = zrun zP sv C 287 1 [.val (.ref a), l1] (.ref a :: st) h := zx_go rfl rfl
theorem zs_287_1 : zrun zP sv C 287 1 [l0, .val (.int x)] st h = zrun zP sv C 287 2 [l0, .val (.int x)] (.int x :: st) h := zx_go rfl rfl
theorem zs_287_2 : zrun zP sv C 287 2 [l0, l1] st h = zrun zP sv C 287 3 [l0, l1] (.int 0 :: st) h := zx_go rfl rfl
theorem zs_287_3 : zrun zP sv C 287 3 [.val (.ref a), l1] st h = zrun zP sv C 287 4 [.val (.ref a), l1] (.ref a :: st) h := zx_go rfl rfl
theorem zs_287_4 : zrun zP sv C 287 4 [l0, l1] (.ref a :: st) h = zfld (h.1 a) 13 24 (fun v => zrun zP sv C 287 7 [l0, l1] (v :: st) h) := zx_getf rfl rfl
theorem zs_287_7 : zrun zP sv C 287 7 [l0, l1] st h = zrun zP sv C 287 8 [l0, l1] (.int (nI 1) :: st) h := zx_go rfl rfl
theorem zs_287_8 : zrun zP sv C 287 8 [l0, l1] (.int y :: .int x :: st) h = zrun zP sv C 287 9 [l0, l1] (.int (x - y) :: st) h := zx_go rfl rfl
theorem zs_287_9 : zrun zP sv C 287 9 [l0, l1] [v2, v1, v0, r0] h = zbk (C 199 [v0, v1, v2] h) (fun v h' => zrun zP sv C 287 12 [l0, l1] (v.toList ++ [r0]) h') (fun E h' => some (.inr E, h')) := zx_cs rfl rfl rfl rfl ⟨Nat.le_of_ble_eq_true rfl, rfl⟩ (fun _ _ => rfl)
theorem zs_287_12 : zrun zP sv C 287 12 [l0, l1] (.int x :: st) h = if x = 0 then zrun zP sv C 287 19 [l0, l1] st h else zrun zP sv C 287 15 [l0, l1] st h := (zx_if rfl rfl).trans zc0_if
theorem zs_287_15 : zrun zP sv C 287 15 [l0, l1] st h = zrun zP sv C 287 16 [l0, l1] (.int 0 :: st) h := zx_go rfl rfl
theorem zs_287_16 : zrun zP sv C 287 16 [l0, l1] st h = zrun zP sv C 287 20 [l0, l1] st h := zx_go rfl rfl
theorem zs_287_19 : zrun zP sv C 287 19 [l0, l1] st h = zrun zP sv C 287 20 [l0, l1] (.int (nI 1) :: st) h := zx_go rfl rfl
theorem zs_287_20 : zrun zP sv C 287 20 [l0, l1] (.int x :: .ref a :: st) h = zpfd (h.1 a) 13 31 0 (.int x) (fun c => zrun zP sv C 287 23 [l0, l1] st (zup h a c)) := zx_putf (x0 := 0) rfl rfl
theorem zs_287_23 : zrun zP sv C 287 23 [.val (.ref a), l1] st h = zrun zP sv C 287 24 [.val (.ref a), l1] (.ref a :: st) h := zx_go rfl rfl
theorem zs_287_24 : zrun zP sv C 287 24 [l0, l1] (.ref a :: st) h = zfld (h.1 a) 13 31 (fun v => zrun zP sv C 287 27 [l0, l1] (v :: st) h) := zx_getf rfl rfl
theorem zs_287_27 : zrun zP sv C 287 27 [l0, l1] (.int x :: st) h = if x = 0 then zrun zP sv C 287 30 [l0, l1] st h else zrun zP sv C 287 39 [l0, l1] st h := (zx_if rfl rfl).trans zc1_if
theorem zs_287_30 : zrun zP sv C 287 30 [.val (.ref a), l1] st h = zrun zP sv C 287 31 [.val (.ref a), l1] (.ref a :: st) h := zx_go rfl rfl
theorem zs_287_31 : zrun zP sv C 287 31 [l0, l1] (.ref a :: st) h = zfld (h.1 a) 13 23 (fun v => zrun zP sv C 287 34 [l0, l1] (v :: st) h) := zx_getf rfl rfl
theorem zs_287_34 : zrun zP sv C 287 34 [l0, .val (.int x)] st h = zrun zP sv C 287 35 [l0, .val (.int x)] (.int x :: st) h := zx_go rfl rfl
theorem zs_287_35 : zrun zP sv C 287 35 [l0, l1] (.int x :: .ref a :: st) h = zael (h.1 a) 21 x (fun v => zrun zP sv C 287 36 [l0, l1] (v :: st) h) := zx_ald rfl rfl
theorem zs_287_36 : zrun zP sv C 287 36 [l0, l1] st h = zrun zP sv C 287 41 [l0, l1] st h := zx_go rfl rfl
theorem zs_287_39 : zrun zP sv C 287 39 [l0, l1] st h = zrun zP sv C 287 41 [l0, l1] (.int (nI 97) :: st) h := zx_go rfl rfl
theorem zs_287_41 : zrun zP sv C 287 41 [l0, l1] [.int x] h = zgd (zty 7 (.int x)) (some (.inl (some (.int x)), h)) := zx_rt rfl
theorem zs_288_0 : zrun zP sv C 288 0 [.val (.ref a), l1] st h = zrun zP sv C 288 1 [.val (.ref a), l1] (.ref a :: st) h := zx_go rfl rfl
theorem zs_288_1 : zrun zP sv C 288 1 [l0, .val (.int x)] st h = zrun zP sv C 288 2 [l0, .val (.int x)] (.int x :: st) h := zx_go rfl rfl
theorem zs_288_2 : zrun zP sv C 288 2 [l0, l1] [v1, .ref b] h = zrc (h.1 b) 13 (zbk (C 206 [.ref b, v1] h) (fun v h' => zrun zP sv C 288 5 [l0, l1] (v.toList ++ []) h') (fun E h' => some (.inr E, h'))) := zx_cv (x0 := 13) rfl rfl rfl rfl rfl ⟨Nat.le_of_ble_eq_true rfl, rfl⟩ (fun _ _ => rfl)
theorem zs_288_5 : zrun zP sv C 288 5 [.val (.ref a), l1] st h = zrun zP sv C 288 6 [.val (.ref a), l1] (.ref a :: st) h := zx_go rfl rfl
theorem zs_288_6 : zrun zP sv C 288 6 [l0, l1] st h = zrun zP sv C 288 7 [l0, l1] (.int (nI 1) :: st) h := zx_go rfl rfl
theorem zs_288_7 : zrun zP sv C 288 7 [l0, l1] [v1, .ref b] h = zrc (h.1 b) 13 (zbk (C 213 [.ref b, v1] h) (fun v h' => zrun zP sv C 288 10 [l0, l1] (v.toList ++ []) h') (fun E h' => some (.inr E, h'))) := zx_cv (x0 := 13) rfl rfl rfl rfl rfl ⟨Nat.le_of_ble_eq_true rfl, rfl⟩ (fun _ _ => rfl)
theorem zs_288_10 : zrun zP sv C 288 10 [l0, l1] [.int x] h = some (.inl (some (.int x)), h) := zx_end rfl rfl
theorem zs_289_0 : zrun zP sv C 289 0 [.val (.ref a), l1, l2, l3, l4, l5] st h = zrun zP sv C 289 1 [.val (.ref a), l1, l2, l3, l4, l5] (.ref a :: st) h := zx_go rfl rfl
theorem zs_289_1 : zrun zP sv C 289 1 [l0, l1, l2, l3, l4, l5] st h = zrun zP sv C 289 2 [l0, l1, l2, l3, l4, l5] (.int 0 :: st) h := zx_go rfl rfl
theorem zs_289_2 : zrun zP sv C 289 2 [l0, l1, l2, l3, l4, l5] (.int x :: .ref a :: st) h = zpfd (h.1 a) 13 31 0 (.int x) (fun c => zrun zP sv C 289 5 [l0, l1, l2, l3, l4, l5] st (zup h a c)) := zx_putf (x0 := 0) rfl rfl
theorem zs_289_5 : zrun zP sv C 289 5 [l0, l1, l2, l3, l4, l5] st h = zrun zP sv C 289 6 [l0, l1, l2, l3, l4, l5] (.int 0 :: st) h := zx_go rfl rfl
theorem zs_289_6 (hs : znw l2 = true) : zrun zP sv C 289 6 [l0, l1, l2, l3, l4, l5] (.int x :: st) h = zrun zP sv C 289 7 [l0, l1, .val (.int x), l3, l4, l5] st h := zx_st hs rfl rfl rfl rfl rfl rfl
theorem zs_289_7 : zrun zP sv C 289 7 [l0, l1, .val (.int x), l3, l4, l5] st h = zrun zP sv C 289 8 [l0, l1, .val (.int x), l3, l4, l5] (.int x :: st) h := zx_go rfl rfl
theorem zs_289_8 : zrun zP sv C 289 8 [.val (.ref a), l1, l2, l3, l4, l5] st h = zrun zP sv C 289 9 [.val (.ref a), l1, l2, l3, l4, l5] (.ref a :: st) h := zx_go rfl rfl
theorem zs_289_9 : zrun zP sv C 289 9 [l0, l1, l2, l3, l4, l5] (.ref a :: st) h = zfld (h.1 a) 13 0 (fun v => zrun zP sv C 289 12 [l0, l1, l2, l3, l4, l5] (v :: st) h) := zx_getf rfl rfl
theorem zs_289_12 : zrun zP sv C 289 12 [l0, l1, l2, l3, l4, l5] st h = zrun zP sv C 289 13 [l0, l1, l2, l3, l4, l5] (.int 0 :: st) h := zx_go rfl rfl
theorem zs_289_13 : zrun zP sv C 289 13 [l0, l1, l2, l3, l4, l5] (.int x :: .ref a :: st) h = zael (h.1 a) 20 x (fun v => zrun zP sv C 289 14 [l0, l1, l2, l3, l4, l5] (v :: st) h) := zx_ald rfl rfl
theorem zs_289_14 : zrun zP sv C 289 14 [l0, l1, l2, l3, l4, l5] (.int y :: .int x :: st) h = if x < y then zrun zP sv C 289 17 [l0, l1, l2, l3, l4, l5] st h else zrun zP sv C 289 118 [l0, l1, l2, l3, l4, l5] st h := (zx_ic rfl rfl).trans zc3_if
theorem zs_289_17 : zrun zP sv C 289 17 [l0, l1, l2, l3, l4, l5] st h = zrun zP sv C 289 18 [l0, l1, l2, l3, l4, l5] (.int 0 :: st) h := zx_go rfl rfl
theorem zs_289_18 (hs : znw l3 = true) : zrun zP sv C 289 18 [l0, l1, l2, l3, l4, l5] (.int x :: st) h = zrun zP sv C 289 19 [l0, l1, l2, .val (.int x), l4, l5] st h := zx_st hs rfl rfl rfl rfl rfl rfl
theorem zs_289_19 : zrun zP sv C 289 19 [l0, l1, l2, l3, l4, l5] st h = zrun zP sv C 289 20 [l0, l1, l2, l3, l4, l5] (.int 0 :: st) h := zx_go rfl rfl
theorem zs_289_20 (hs : znw l4 = true) : zrun zP sv C 289 20 [l0, l1, l2, l3, l4, l5] (.int x :: st) h = zrun zP sv C 289 22 [l0, l1, l2, l3, .val (.int x), l5] st h := zx_st hs rfl rfl rfl rfl rfl rfl
theorem zs_289_22 : zrun zP sv C 289 22 [l0, l1, l2, l3, .val (.int x), l5] st h = zrun zP sv C 289 24 [l0, l1, l2, l3, .val (.int x), l5] (.int x :: st) h := zx_go rfl rfl
theorem zs_289_24 : zrun zP sv C 289 24 [.val (.ref a), l1, l2, l3, l4, l5] st h = zrun zP sv C 289 25 [.val (.ref a), l1, l2, l3, l4, l5] (.ref a :: st) h := zx_go rfl rfl
theorem zs_289_25 : zrun zP sv C 289 25 [l0, l1, l2, l3, l4, l5] (.ref a :: st) h = zfld (h.1 a) 13 0 (fun v => zrun zP sv C 289 28 [l0, l1, l2, l3, l4, l5] (v :: st) h) := zx_getf rfl rfl
theorem zs_289_28 : zrun zP sv C 289 28 [l0, l1, l2, l3, l4, l5] st h = zrun zP sv C 289 29 [l0, l1, l2, l3, l4, l5] (.int 0 :: st) h := zx_go rfl rfl
theorem zs_289_29 : zrun zP sv C 289 29 [l0, l1, l2, l3, l4, l5] (.int x :: .ref a :: st) h = zael (h.1 a) 20 x (fun v => zrun zP sv C 289 30 [l0, l1, l2, l3, l4, l5] (v :: st) h) := zx_ald rfl rfl
theorem zs_289_30 : zrun zP sv C 289 30 [l0, l1, l2, l3, l4, l5] (.int y :: .int x :: st) h = if x < y then zrun zP sv C 289 33 [l0, l1, l2, l3, l4, l5] st h else zrun zP sv C 289 105 [l0, l1, l2, l3, l4, l5] st h := (zx_ic rfl rfl).trans zc3_if
theorem zs_289_33 : zrun zP sv C 289 33 [.val (.ref a), l1, l2, l3, l4, l5] st h = zrun zP sv C 289 34 [.val (.ref a), l1, l2, l3, l4, l5] (.ref a :: st) h := zx_go rfl rfl
theorem zs_289_34 : zrun zP sv C 289 34 [l0, l1, l2, l3, l4, l5] (.ref a :: st) h = zfld (h.1 a) 13 0 (fun v => zrun zP sv C 289 37 [l0, l1, l2, l3, l4, l5] (v :: st) h) := zx_getf rfl rfl
theorem zs_289_37 : zrun zP sv C 289 37 [l0, l1, l2, l3, l4, l5] st h = zrun zP sv C 289 39 [l0, l1, l2, l3, l4, l5] (.int (nI 9) :: st) h := zx_go rfl rfl
theorem zs_289_39 : zrun zP sv C 289 39 [l0, l1, l2, l3, l4, l5] st h = zrun zP sv C 289 41 [l0, l1, l2, l3, l4, l5] (.int (nI 63) :: st) h := zx_go rfl rfl
theorem zs_289_41 : zrun zP sv C 289 41 [l0, l1, l2, l3, .val (.int x), l5] st h = zrun zP sv C 289 43 [l0, l1, l2, l3, .val (.int x), l5] (.int x :: st) h := zx_go rfl rfl
theorem zs_289_43 : zrun zP sv C 289 43 [l0, l1, l2, l3, l4, l5] (.int y :: .int x :: st) h = zrun zP sv C 289 44 [l0, l1, l2, l3, l4, l5] (.int (x * y) :: st) h := zx_go rfl rfl
theorem zs_289_44 : zrun zP sv C 289 44 [l0, l1, l2, l3, l4, l5] (.int y :: .int x :: st) h = zrun zP sv C 289 45 [l0, l1, l2, l3, l4, l5] (.int (x + y) :: st) h := zx_go rfl rfl
theorem zs_289_45 : zrun zP sv C 289 45 [l0, l1, l2, l3, l4, l5] (.int x :: .ref a :: st) h = zael (h.1 a) 20 x (fun v => zrun zP sv C 289 46 [l0, l1, l2, l3, l4, l5] (v :: st) h) := zx_ald rfl rfl
theorem zs_289_46 : zrun zP sv C 289 46 [.val (.ref a), l1, l2, l3, l4, l5] st h = zrun zP sv C 289 47 [.val (.ref a), l1, l2, l3, l4, l5] (.ref a :: st) h := zx_go rfl rfl
theorem zs_289_47 : zrun zP sv C 289 47 [l0, l1, l2, l3, l4, l5] (.ref a :: st) h = zfld (h.1 a) 13 0 (fun v => zrun zP sv C 289 50 [l0, l1, l2, l3, l4, l5] (v :: st) h) := zx_getf rfl rfl
theorem zs_289_50 : zrun zP sv C 289 50 [l0, l1, l2, l3, l4, l5] st h = zrun zP sv C 289 52 [l0, l1, l2, l3, l4, l5] (.int (nI 9) :: st) h := zx_go rfl rfl
theorem zs_289_52 : zrun zP sv C 289 52 [l0, l1, l2, l3, l4, l5] st h = zrun zP sv C 289 54 [l0, l1, l2, l3, l4, l5] (.int (nI 63) :: st) h := zx_go rfl rfl
theorem zs_289_54 : zrun zP sv C 289 54 [l0, l1, .val (.int x), l3, l4, l5] st h = zrun zP sv C 289 55 [l0, l1, .val (.int x), l3, l4, l5] (.int x :: st) h := zx_go rfl rfl
theorem zs_289_55 : zrun zP sv C 289 55 [l0, l1, l2, l3, l4, l5] (.int y :: .int x :: st) h = zrun zP sv C 289 56 [l0, l1, l2, l3, l4, l5] (.int (x * y) :: st) h := zx_go rfl rfl
theorem zs_289_56 : zrun zP sv C 289 56 [l0, l1, l2, l3, l4, l5] (.int y :: .int x :: st) h = zrun zP sv C 289 57 [l0, l1, l2, l3, l4, l5] (.int (x + y) :: st) h := zx_go rfl rfl
theorem zs_289_57 : zrun zP sv C 289 57 [l0, l1, l2, l3, l4, l5] (.int x :: .ref a :: st) h = zael (h.1 a) 20 x (fun v => zrun zP sv C 289 58 [l0, l1, l2, l3, l4, l5] (v :: st) h) := zx_ald rfl rfl
theorem zs_289_58 : zrun zP sv C 289 58 [l0, l1, l2, l3, l4, l5] (.int y :: .int x :: st) h = zrun zP sv C 289 59 [l0, l1, l2, l3, l4, l5] (.int (x - y) :: st) h := zx_go rfl rfl
theorem zs_289_59 (hs : znw l5 = true) : zrun zP sv C 289 59 [l0, l1, l2, l3, l4, l5] (.int x :: st) h = zrun zP sv C 289 61 [l0, l1, l2, l3, l4, .val (.int x)] st h := zx_st hs rfl rfl rfl rfl rfl rfl
theorem zs_289_61 : zrun zP sv C 289 61 [l0, l1, l2, l3, l4, .val (.int x)] st h = zrun zP sv C 289 63 [l0, l1, l2, l3, l4, .val (.int x)] (.int x :: st) h := zx_go rfl rfl
theorem zs_289_63 : zrun zP sv C 289 63 [l0, l1, l2, l3, l4, l5] (.int x :: st) h = if x = 0 then zrun zP sv C 289 66 [l0, l1, l2, l3, l4, l5] st h else zrun zP sv C 289 80 [l0, l1, l2, l3, l4, l5] st h := (zx_if rfl rfl).trans zc1_if
theorem zs_289_66 : zrun zP sv C 289 66 [.val (.ref a), l1, l2, l3, l4, l5] st h = zrun zP sv C 289 67 [.val (.ref a), l1, l2, l3, l4, l5] (.ref a :: st) h := zx_go rfl rfl
theorem zs_289_67 : zrun zP sv C 289 67 [l0, l1, l2, l3, .val (.int x), l5] st h = zrun zP sv C 289 69 [l0, l1, l2, l3, .val (.int x), l5] (.int x :: st) h := zx_go rfl rfl
theorem zs_289_69 : zrun zP sv C 289 69 [l0, l1, l2, l3, l4, l5] [v1, .ref b] h = zrc (h.1 b) 13 (zbk (C 288 [.ref b, v1] h) (fun v h' => zrun zP sv C 289 72 [l0, l1, l2, l3, l4, l5] (v.toList ++ []) h') (fun E h' => some (.inr E, h'))) := zx_cv (x0 := 13) rfl rfl rfl rfl rfl ⟨Nat.le_of_ble_eq_true rfl, rfl⟩ (fun _ _ => rfl)
theorem zs_289_72 : zrun zP sv C 289 72 [.val (.ref a), l1, l2, l3, l4, l5] st h = zrun zP sv C 289 73 [.val (.ref a), l1, l2, l3, l4, l5] (.ref a :: st) h := zx_go rfl rfl
theorem zs_289_73 : zrun zP sv C 289 73 [l0, l1, .val (.int x), l3, l4, l5] st h = zrun zP sv C 289 74 [l0, l1, .val (.int x), l3, l4, l5] (.int x :: st) h := zx_go rfl rfl
theorem zs_289_74 : zrun zP sv C 289 74 [l0, l1, l2, l3, l4, l5] [v1, .ref b, r0] h = zrc (h.1 b) 13 (zbk (C 288 [.ref b, v1] h) (fun v h' => zrun zP sv C 289 77 [l0, l1, l2, l3, l4, l5] (v.toList ++ [r0]) h') (fun E h' => some (.inr E, h'))) := zx_cv (x0 := 13) rfl rfl rfl rfl rfl ⟨Nat.le_of_ble_eq_true rfl, rfl⟩ (fun _ _ => rfl)
theorem zs_289_77 : zrun zP sv C 289 77 [l0, l1, l2, l3, l4, l5] (.int y :: .int x :: st) h = zrun zP sv C 289 78 [l0, l1, l2, l3, l4, l5] (.int (x - y) :: st) h := zx_go rfl rfl
theorem zs_289_78 (hs : znw l5 = true) : zrun zP sv C 289 78 [l0, l1, l2, l3, l4, l5] (.int x :: st) h = zrun zP sv C 289 80 [l0, l1, l2, l3, l4, .val (.int x)] st h := zx_st hs rfl rfl rfl rfl rfl rfl
theorem zs_289_80 : zrun zP sv C 289 80 [l0, l1, l2, l3, l4, .val (.int x)] st h = zrun zP sv C 289 82 [l0, l1, l2, l3, l4, .val (.int x)] (.int x :: st) h := zx_go rfl rfl
theorem zs_289_82 : zrun zP sv C 289 82 [l0, l1, l2, l3, l4, l5] (.int x :: st) h = if 0 < x then zrun zP sv C 289 96 [l0, l1, l2, l3, l4, l5] st h else zrun zP sv C 289 85 [l0, l1, l2, l3, l4, l5] st h := (zx_if rfl rfl).trans zc4_if
theorem zs_289_85 : zrun zP sv C 289 85 [l0, l1, l2, l3, l4, .val (.int x)] st h = zrun zP sv C 289 87 [l0, l1, l2, l3, l4, .val (.int x)] (.int x :: st) h := zx_go rfl rfl
theorem zs_289_87 : zrun zP sv C 289 87 [l0, l1, l2, l3, l4, l5] (.int x :: st) h = if x = 0 then zrun zP sv C 289 90 [l0, l1, l2, l3, l4, l5] st h else zrun zP sv C 289 99 [l0, l1, l2, l3, l4, l5] st h := (zx_if rfl rfl).trans zc1_if
theorem zs_289_90 : zrun zP sv C 289 90 [l0, l1, l2, l3, .val (.int x), l5] st h = zrun zP sv C 289 92 [l0, l1, l2, l3, .val (.int x), l5] (.int x :: st) h := zx_go rfl rfl
theorem zs_289_92 : zrun zP sv C 289 92 [l0, l1, .val (.int x), l3, l4, l5] st h = zrun zP sv C 289 93 [l0, l1, .val (.int x), l3, l4, l5] (.int x :: st) h := zx_go rfl rfl
theorem zs_289_93 : zrun zP sv C 289 93 [l0, l1, l2, l3, l4, l5] (.int y :: .int x :: st) h = if x < y then zrun zP sv C 289 96 [l0, l1, l2, l3, l4, l5] st h else zrun zP sv C 289 99 [l0, l1, l2, l3, l4, l5] st h := (zx_ic rfl rfl).trans zc3_if
theorem zs_289_96 : zrun zP sv C 289 96 [l0, l1, l2, .val (.int x), l4, l5] st h = zrun zP sv C 289 99 [l0, l1, l2, .val (.int (x + (nI 1))), l4, l5] st h := zx_ii rfl rfl rfl rfl rfl
theorem zs_289_99 : zrun zP sv C 289 99 [l0, l1, l2, l3, .val (.int x), l5] st h = zrun zP sv C 289 102 [l0, l1, l2, l3, .val (.int (x + (nI 1))), l5] st h := zx_ii rfl rfl rfl rfl rfl
theorem zs_289_102 : zrun zP sv C 289 102 [l0, l1, l2, l3, l4, l5] st h = zrun zP sv C 289 22 [l0, l1, l2, l3, l4, l5] st h := zx_go rfl rfl
theorem zs_289_105 : zrun zP sv C 289 105 [l0, l1, l2, .val (.int x), l4, l5] st h = zrun zP sv C 289 106 [l0, l1, l2, .val (.int x), l4, l5] (.int x :: st) h := zx_go rfl rfl
theorem zs_289_106 : zrun zP sv C 289 106 [l0, .val (.int x), l2, l3, l4, l5] st h = zrun zP sv C 289 107 [l0, .val (.int x), l2, l3, l4, l5] (.int x :: st) h := zx_go rfl rfl
theorem zs_289_107 : zrun zP sv C 289 107 [l0, l1, l2, l3, l4, l5] (.int y :: .int x :: st) h = if x = y then zrun zP sv C 289 110 [l0, l1, l2, l3, l4, l5] st h else zrun zP sv C 289 112 [l0, l1, l2, l3, l4, l5] st h := (zx_ic rfl rfl).trans zc1_if
theorem zs_289_110 : zrun zP sv C 289 110 [l0, l1, .val (.int x), l3, l4, l5] st h = zrun zP sv C 289 111 [l0, l1, .val (.int x), l3, l4, l5] (.int x :: st) h := zx_go rfl rfl
theorem zs_289_111 : zrun zP sv C 289 111 [l0, l1, l2, l3, l4, l5] [.int x] h = some (.inl (some (.int x)), h) := zx_end rfl rfl
theorem zs_289_112 : zrun zP sv C 289 112 [l0, l1, .val (.int x), l3, l4, l5] st h = zrun zP sv C 289 115 [l0, l1, .val (.int (x + (nI 1))), l3, l4, l5] st h := zx_ii rfl rfl rfl rfl rfl
theorem zs_289_115 : zrun zP sv C 289 115 [l0, l1, l2, l3, l4, l5] st h = zrun zP sv C 289 7 [l0, l1, l2, l3, l4, l5] st h := zx_go rfl rfl
theorem zs_289_118 : zrun zP sv C 289 118 [.val (.ref a), l1, l2, l3, l4, l5] st h = zrun zP sv C 289 119 [.val (.ref a), l1, l2, l3, l4, l5] (.ref a :: st) h := zx_go rfl rfl
theorem zs_289_119 : zrun zP sv C 289 119 [l0, l1, l2, l3, l4, l5] st h = zrun zP sv C 289 120 [l0, l1, l2, l3, l4, l5] (.int (nI 1) :: st) h := zx_go rfl rfl
theorem zs_289_120 : zrun zP sv C 289 120 [l0, l1, l2, l3, l4, l5] [v1, .ref b] h = zrc (h.1 b) 13 (zbk (C 198 [.ref b, v1] h) (fun v h' => zrun zP sv C 289 123 [l0, l1, l2, l3, l4, l5] (v.toList ++ []) h') (fun E h' => some (.inr E, h'))) := zx_cv (x0 := 13) rfl rfl rfl rfl rfl ⟨Nat.le_of_ble_eq_true rfl, rfl⟩ (fun _ _ => rfl)
theorem zs_289_123 : zrun zP sv C 289 123 [l0, l1, l2, l3, l4, l5] [.int x] h = some (.inl (some (.int x)), h) := zx_end rfl rfl
theorem zs_290_0 : zrun zP sv C 290 0 [.val (.ref a)] st h = zrun zP sv C 290 1 [.val (.ref a)] (.ref a :: st) h := zx_go rfl rfl
theorem zs_290_1 : zrun zP sv C 290 1 [l0] st h = zrun zP sv C 290 2 [l0] (.int 0 :: st) h := zx_go rfl rfl
theorem zs_290_2 : zrun zP sv C 290 2 [l0] (.int x :: .ref a :: st) h = zpfd (h.1 a) 13 31 0 (.int x) (fun c => zrun zP sv C 290 5 [l0] st (zup h a c)) := zx_putf (x0 := 0) rfl rfl
theorem zs_290_5 : zrun zP sv C 290 5 [.val (.ref a)] st h = zrun zP sv C 290 6 [.val (.ref a)] (.ref a :: st) h := zx_go rfl rfl
theorem zs_290_6 : zrun zP sv C 290 6 [l0] (.ref a :: st) h = zfld (h.1 a) 13 0 (fun v => zrun zP sv C 290 9 [l0] (v :: st) h) := zx_getf rfl rfl
theorem zs_290_9 : zrun zP sv C 290 9 [l0] st h = zrun zP sv C 290 10 [l0] (.int (nI 2) :: st) h := zx_go rfl rfl
theorem zs_290_10 : zrun zP sv C 290 10 [l0] (.int x :: .ref a :: st) h = zael (h.1 a) 20 x (fun v => zrun zP sv C 290 11 [l0] (v :: st) h) := zx_ald rfl rfl
theorem zs_290_11 : zrun zP sv C 290 11 [l0] [.int x] h = some (.inl (some (.int x)), h) := zx_end rfl rfl
theorem zs_291_0 : zrun zP sv C 291 0 [.val (.ref a), l1, l2] st h = zrun zP sv C 291 1 [.val (.ref a), l1, l2] (.ref a :: st) h := zx_go rfl rfl
theorem zs_291_1 : zrun zP sv C 291 1 [l0, l1, l2] st h = zrun zP sv C 291 2 [l0, l1, l2] (.int 0 :: st) h := zx_go rfl rfl
theorem zs_291_2 : zrun zP sv C 291 2 [l0, l1, l2] (.int x :: .ref a :: st) h = zpfd (h.1 a) 13 31 0 (.int x) (fun c => zrun zP sv C 291 5 [l0, l1, l2] st (zup h a c)) := zx_putf (x0 := 0) rfl rfl
theorem zs_291_5 : zrun zP sv C 291 5 [l0, l1, l2] st h = zrun zP sv C 291 6 [l0, l1, l2] (.int 0 :: st) h := zx_go rfl rfl
theorem zs_291_6 (hs : znw l1 = true) : zrun zP sv C 291 6 [l0, l1, l2] (.int x :: st) h = zrun zP sv C 291 7 [l0, .val (.int x), l2] st h := zx_st hs rfl rfl rfl rfl rfl rfl
theorem zs_291_7 : zrun zP sv C 291 7 [l0, l1, l2] st h = zrun zP sv C 291 8 [l0, l1, l2] (.int 0 :: st) h := zx_go rfl rfl
theorem zs_291_8 (hs : znw l2 = true) : zrun zP sv C 291 8 [l0, l1, l2] (.int x :: st) h = zrun zP sv C 291 9 [l0, l1, .val (.int x)] st h := zx_st hs rfl rfl rfl rfl rfl rfl
theorem zs_291_9 : zrun zP sv C 291 9 [l0, l1, .val (.int x)] st h = zrun zP sv C 291 10 [l0, l1, .val (.int x)] (.int x :: st) h := zx_go rfl rfl
theorem zs_291_10 : zrun zP sv C 291 10 [.val (.ref a), l1, l2] st h = zrun zP sv C 291 11 [.val (.ref a), l1, l2] (.ref a :: st) h := zx_go rfl rfl
theorem zs_291_11 : zrun zP sv C 291 11 [l0, l1, l2] (.ref a :: st) h = zfld (h.1 a) 13 0 (fun v => zrun zP sv C 291 14 [l0, l1, l2] (v :: st) h) := zx_getf rfl rfl
theorem zs_291_14 : zrun zP sv C 291 14 [l0, l1, l2] st h = zrun zP sv C 291 15 [l0, l1, l2] (.int 0 :: st) h := zx_go rfl rfl
theorem zs_291_15 : zrun zP sv C 291 15 [l0, l1, l2] (.int x :: .ref a :: st) h = zael (h.1 a) 20 x (fun v => zrun zP sv C 291 16 [l0, l1, l2] (v :: st) h) := zx_ald rfl rfl
theorem zs_291_16 : zrun zP sv C 291 16 [l0, l1, l2] (.int y :: .int x :: st) h = if x < y then zrun zP sv C 291 19 [l0, l1, l2] st h else zrun zP sv C 291 40 [l0, l1, l2] st h := (zx_ic rfl rfl).trans zc3_if
theorem zs_291_19 : zrun zP sv C 291 19 [l0, .val (.int x), l2] st h = zrun zP sv C 291 20 [l0, .val (.int x), l2] (.int x :: st) h := zx_go rfl rfl
theorem zs_291_20 : zrun zP sv C 291 20 [.val (.ref a), l1, l2] st h = zrun zP sv C 291 21 [.val (.ref a), l1, l2] (.ref a :: st) h := zx_go rfl rfl
theorem zs_291_21 : zrun zP sv C 291 21 [l0, l1, l2] (.ref a :: st) h = zfld (h.1 a) 13 0 (fun v => zrun zP sv C 291 24 [l0, l1, l2] (v :: st) h) := zx_getf rfl rfl
theorem zs_291_24 : zrun zP sv C 291 24 [l0, l1, l2] st h = zrun zP sv C 291 26 [l0, l1, l2] (.int (nI 9) :: st) h := zx_go rfl rfl
theorem zs_291_26 : zrun zP sv C 291 26 [l0, l1, l2] st h = zrun zP sv C 291 28 [l0, l1, l2] (.int (nI 63) :: st) h := zx_go rfl rfl
theorem zs_291_28 : zrun zP sv C 291 28 [l0, l1, .val (.int x)] st h = zrun zP sv C 291 29 [l0, l1, .val (.int x)] (.int x :: st) h := zx_go rfl rfl
theorem zs_291_29 : zrun zP sv C 291 29 [l0, l1, l2] (.int y :: .int x :: st) h = zrun zP sv C 291 30 [l0, l1, l2] (.int (x * y) :: st) h := zx_go rfl rfl
theorem zs_291_30 : zrun zP sv C 291 30 [l0, l1, l2] (.int y :: .int x :: st) h = zrun zP sv C 291 31 [l0, l1, l2] (.int (x + y) :: st) h := zx_go rfl rfl
theorem zs_291_31 : zrun zP sv C 291 31 [l0, l1, l2] (.int x :: .ref a :: st) h = zael (h.1 a) 20 x (fun v => zrun zP sv C 291 32 [l0, l1, l2] (v :: st) h) := zx_ald rfl rfl
theorem zs_291_32 : zrun zP sv C 291 32 [l0, l1, l2] (.int y :: .int x :: st) h = zrun zP sv C 291 33 [l0, l1, l2] (.int (x + y) :: st) h := zx_go rfl rfl
theorem zs_291_33 (hs : znw l1 = true) : zrun zP sv C 291 33 [l0, l1, l2] (.int x :: st) h = zrun zP sv C 291 34 [l0, .val (.int x), l2] st h := zx_st hs rfl rfl rfl rfl rfl rfl
theorem zs_291_34 : zrun zP sv C 291 34 [l0, l1, .val (.int x)] st h = zrun zP sv C 291 37 [l0, l1, .val (.int (x + (nI 1)))] st h := zx_ii rfl rfl rfl rfl rfl
theorem zs_291_37 : zrun zP sv C 291 37 [l0, l1, l2] st h = zrun zP sv C 291 9 [l0, l1, l2] st h := zx_go rfl rfl
theorem zs_291_40 : zrun zP sv C 291 40 [.val (.ref a), l1, l2] st h = zrun zP sv C 291 41 [.val (.ref a), l1, l2] (.ref a :: st) h := zx_go rfl rfl
theorem zs_291_41 : zrun zP sv C 291 41 [l0, l1, l2] (.ref a :: st) h = zfld (h.1 a) 13 0 (fun v => zrun zP sv C 291 44 [l0, l1, l2] (v :: st) h) := zx_getf rfl rfl
theorem zs_291_44 : zrun zP sv C 291 44 [l0, l1, l2] st h = zrun zP sv C 291 45 [l0, l1, l2] (.int 0 :: st) h := zx_go rfl rfl
theorem zs_291_45 : zrun zP sv C 291 45 [l0, l1, l2] (.int x :: .ref a :: st) h = zael (h.1 a) 20 x (fun v => zrun zP sv C 291 46 [l0, l1, l2] (v :: st) h) := zx_ald rfl rfl
theorem zs_291_46 : zrun zP sv C 291 46 [l0, l1, l2] (.int x :: st) h = if x = 0 then zrun zP sv C 291 49 [l0, l1, l2] st h else zrun zP sv C 291 58 [l0, l1, l2] st h := (zx_if rfl rfl).trans zc1_if
theorem zs_291_49 : zrun zP sv C 291 49 [.val (.ref a), l1, l2] st h = zrun zP sv C 291 50 [.val (.ref a), l1, l2] (.ref a :: st) h := zx_go rfl rfl
theorem zs_291_50 : zrun zP sv C 291 50 [l0, l1, l2] st h = zrun zP sv C 291 51 [l0, l1, l2] (.int (nI 1) :: st) h := zx_go rfl rfl
theorem zs_291_51 : zrun zP sv C 291 51 [l0, l1, l2] [v1, .ref b] h = zrc (h.1 b) 13 (zbk (C 198 [.ref b, v1] h) (fun v h' => zrun zP sv C 291 54 [l0, l1, l2] (v.toList ++ []) h') (fun E h' => some (.inr E, h'))) := zx_cv (x0 := 13) rfl rfl rfl rfl rfl ⟨Nat.le_of_ble_eq_true rfl, rfl⟩ (fun _ _ => rfl)
theorem zs_291_54 : zrun zP sv C 291 54 [l0, l1, l2] (.int x :: st) h = zrun zP sv C 291 55 [l0, l1, l2] (.double (FP.i2d x) :: st) h := zx_go rfl rfl
theorem zs_291_55 : zrun zP sv C 291 55 [l0, l1, l2] st h = zrun zP sv C 291 68 [l0, l1, l2] st h := zx_go rfl rfl
theorem zs_291_58 : zrun zP sv C 291 58 [l0, .val (.int x), l2] st h = zrun zP sv C 291 59 [l0, .val (.int x), l2] (.int x :: st) h := zx_go rfl rfl
theorem zs_291_59 : zrun zP sv C 291 59 [l0, l1, l2] (.int x :: st) h = zrun zP sv C 291 60 [l0, l1, l2] (.double (FP.i2d x) :: st) h := zx_go rfl rfl
theorem zs_291_60 : zrun zP sv C 291 60 [.val (.ref a), l1, l2] st h = zrun zP sv C 291 61 [.val (.ref a), l1, l2] (.ref a :: st) h := zx_go rfl rfl
theorem zs_291_61 : zrun zP sv C 291 61 [l0, l1, l2] (.ref a :: st) h = zfld (h.1 a) 13 0 (fun v => zrun zP sv C 291 64 [l0, l1, l2] (v :: st) h) := zx_getf rfl rfl
theorem zs_291_64 : zrun zP sv C 291 64 [l0, l1, l2] st h = zrun zP sv C 291 65 [l0, l1, l2] (.int 0 :: st) h := zx_go rfl rfl
theorem zs_291_65 : zrun zP sv C 291 65 [l0, l1, l2] (.int x :: .ref a :: st) h = zael (h.1 a) 20 x (fun v => zrun zP sv C 291 66 [l0, l1, l2] (v :: st) h) := zx_ald rfl rfl
theorem zs_291_66 : zrun zP sv C 291 66 [l0, l1, l2] (.int x :: st) h = zrun zP sv C 291 67 [l0, l1, l2] (.double (FP.i2d x) :: st) h := zx_go rfl rfl
theorem zs_291_67 : zrun zP sv C 291 67 [l0, l1, l2] (.double xe :: .double xd :: st) h = zgd (decide (FP.ddiv xd xe &&& 0x7fffffffffffffff ≤ 0x7ff0000000000000)) (zrun zP sv C 291 68 [l0, l1, l2] (.double (FP.ddiv xd xe) :: st) h) := zx_ddv rfl rfl
theorem zs_291_68 : zrun zP sv C 291 68 [l0, l1, l2] [.double xd] h = some (.inl (some (.double xd)), h) := zx_end rfl rfl
theorem zs_292_0 : zrun zP sv C 292 0 [.val (.ref a), l1] st h = zrun zP sv C 292 1 [.val (.ref a), l1] (.ref a :: st) h := zx_go rfl rfl
theorem zs_292_1 : zrun zP sv C 292 1 [l0, .val (.int x)] st h = zrun zP sv C 292 2 [l0, .val (.int x)] (.int x :: st) h := zx_go rfl rfl
theorem zs_292_2 : zrun zP sv C 292 2 [.val (.ref a), l1] st h = zrun zP sv C 292 3 [.val (.ref a), l1] (.ref a :: st) h := zx_go rfl rfl
theorem zs_292_3 : zrun zP sv C 292 3 [l0, l1] (.ref a :: st) h = zfld (h.1 a) 13 0 (fun v => zrun zP sv C 292 6 [l0, l1] (v :: st) h) := zx_getf rfl rfl
theorem zs_292_6 : zrun zP sv C 292 6 [l0, l1] st h = zrun zP sv C 292 7 [l0, l1] (.int (nI 1) :: st) h := zx_go rfl rfl
theorem zs_292_7 : zrun zP sv C 292 7 [l0, l1] (.int x :: .ref a :: st) h = zael (h.1 a) 20 x (fun v => zrun zP sv C 292 8 [l0, l1] (v :: st) h) := zx_ald rfl rfl
theorem zs_292_8 : zrun zP sv C 292 8 [l0, l1] [v2, v1, .ref b] h = zrc (h.1 b) 13 (zbk (C 272 [.ref b, v1, v2] h) (fun v h' => zrun zP sv C 292 11 [l0, l1] (v.toList ++ []) h') (fun E h' => some (.inr E, h'))) := zx_cv (x0 := 13) rfl rfl rfl rfl rfl ⟨Nat.le_of_ble_eq_true rfl, rfl⟩ (fun _ _ => rfl)
theorem zs_292_11 : zrun zP sv C 292 11 [l0, l1] (.int x :: st) h = if x = 0 then zrun zP sv C 292 28 [l0, l1] st h else zrun zP sv C 292 14 [l0, l1] st h := (zx_if rfl rfl).trans zc0_if
theorem zs_292_14 : zrun zP sv C 292 14 [.val (.ref a), l1] st h = zrun zP sv C 292 15 [.val (.ref a), l1] (.ref a :: st) h := zx_go rfl rfl
theorem zs_292_15 : zrun zP sv C 292 15 [l0, l1] (.ref a :: st) h = zfld (h.1 a) 13 20 (fun v => zrun zP sv C 292 18 [l0, l1] (v :: st) h) := zx_getf rfl rfl
theorem zs_292_18 : zrun zP sv C 292 18 [l0, l1] (.int x :: st) h = zrun zP sv C 292 19 [l0, l1] (.float (FP.i2f x) :: st) h := zx_go rfl rfl
theorem zs_292_19 : zrun zP sv C 292 19 [.val (.ref a), l1] st h = zrun zP sv C 292 20 [.val (.ref a), l1] (.ref a :: st) h := zx_go rfl rfl
theorem zs_292_20 : zrun zP sv C 292 20 [l0, l1] (.ref a :: st) h = zfld (h.1 a) 13 19 (fun v => zrun zP sv C 292 23 [l0, l1] (v :: st) h) := zx_getf rfl rfl
theorem zs_292_23 : zrun zP sv C 292 23 [l0, l1] (.int x :: st) h = zrun zP sv C 292 24 [l0, l1] (.float (FP.i2f x) :: st) h := zx_go rfl rfl
theorem zs_292_24 : zrun zP sv C 292 24 [l0, l1] (.float xg :: .float xf :: st) h = zgd (decide (FP.fdiv xf xg &&& 0x7fffffff ≤ 0x7f800000)) (zrun zP sv C 292 25 [l0, l1] (.float (FP.fdiv xf xg) :: st) h) := zx_fdv rfl rfl
theorem zs_292_25 : zrun zP sv C 292 25 [l0, l1] st h = zrun zP sv C 292 29 [l0, l1] st h := zx_go rfl rfl
theorem zs_292_28 : zrun zP sv C 292 28 [l0, l1] st h = zrun zP sv C 292 29 [l0, l1] (.float FP.fconst0 :: st) h := zx_go rfl rfl
theorem zs_292_29 : zrun zP sv C 292 29 [l0, l1] [.float xf] h = some (.inl (some (.float xf)), h) := zx_end rfl rfl
theorem zs_293_0 : zrun zP sv C 293 0 [.val (.ref a)] st h = zrun zP sv C 293 1 [.val (.ref a)] (.ref a :: st) h := zx_go rfl rfl
theorem zs_293_1 : zrun zP sv C 293 1 [l0] st h = zrun zP sv C 293 2 [l0] (.int 0 :: st) h := zx_go rfl rfl
theorem zs_293_2 : zrun zP sv C 293 2 [l0] (.int x :: .ref a :: st) h = zpfd (h.1 a) 13 31 0 (.int x) (fun c => zrun zP sv C 293 5 [l0] st (zup h a c)) := zx_putf (x0 := 0) rfl rfl
theorem zs_293_5 : zrun zP sv C 293 5 [l0] st h = zrun zP sv C 293 6 [l0] (.int (nI 1) :: st) h := zx_go rfl rfl
theorem zs_293_6 : zrun zP sv C 293 6 [l0] [.int x] h = zgd (zty 5 (.int x)) (some (.inl (some (.int x)), h)) := zx_rt rfl
theorem zs_294_0 : zrun zP sv C 294 0 [.val (.ref a)] st h = zrun zP sv C 294 1 [.val (.ref a)] (.ref a :: st) h := zx_go rfl rfl
theorem zs_294_1 : zrun zP sv C 294 1 [l0] st h = zrun zP sv C 294 2 [l0] (.int 0 :: st) h := zx_go rfl rfl
theorem zs_294_2 : zrun zP sv C 294 2 [l0] (.int x :: .ref a :: st) h = zpfd (h.1 a) 13 31 0 (.int x) (fun c => zrun zP sv C 294 5 [l0] st (zup h a c)) := zx_putf (x0 := 0) rfl rfl
theorem zs_294_5 : zrun zP sv C 294 5 [.val (.ref a)] st h = zrun zP sv C 294 6 [.val (.ref a)] (.ref a :: st) h := zx_go rfl rfl
theorem zs_294_6 : zrun zP sv C 294 6 [l0] (.ref a :: st) h = zfld (h.1 a) 13 29 (fun v => zrun zP sv C 294 9 [l0] (v :: st) h) := zx_getf rfl rfl
theorem zs_294_9 : zrun zP sv C 294 9 [l0] (.int x :: st) h = if x < 0 then zrun zP sv C 294 12 [l0] st h else zrun zP sv C 294 20 [l0] st h := (zx_if rfl rfl).trans zc3_if
theorem zs_294_12 : zrun zP sv C 294 12 [.val (.ref a)] st h = zrun zP sv C 294 13 [.val (.ref a)] (.ref a :: st) h := zx_go rfl rfl
theorem zs_294_13 : zrun zP sv C 294 13 [l0] st h = zrun zP sv C 294 14 [l0] (.int (nI 1) :: st) h := zx_go rfl rfl
theorem zs_294_14 : zrun zP sv C 294 14 [l0] [v1, .ref b] h = zrc (h.1 b) 13 (zbk (C 198 [.ref b, v1] h) (fun v h' => zrun zP sv C 294 17 [l0] (v.toList ++ []) h') (fun E h' => some (.inr E, h'))) := zx_cv (x0 := 13) rfl rfl rfl rfl rfl ⟨Nat.le_of_ble_eq_true rfl, rfl⟩ (fun _ _ => rfl)
theorem zs_294_17 : zrun zP sv C 294 17 [l0] st h = zrun zP sv C 294 24 [l0] st h := zx_go rfl rfl
theorem zs_294_20 : zrun zP sv C 294 20 [.val (.ref a)] st h = zrun zP sv C 294 21 [.val (.ref a)] (.ref a :: st) h := zx_go rfl rfl
theorem zs_294_21 : zrun zP sv C 294 21 [l0] (.ref a :: st) h = zfld (h.1 a) 13 29 (fun v => zrun zP sv C 294 24 [l0] (v :: st) h) := zx_getf rfl rfl
theorem zs_294_24 : zrun zP sv C 294 24 [l0] [.int x] h = some (.inl (some (.int x)), h) := zx_end rfl rfl
theorem zs_295_0 : zrun zP sv C 295 0 [.val (.ref a)] st h = zrun zP sv C 295 1 [.val (.ref a)] (.ref a :: st) h := zx_go rfl rfl
theorem zs_295_1 : zrun zP sv C 295 1 [l0] st h = zrun zP sv C 295 2 [l0] (.int 0 :: st) h := zx_go rfl rfl
theorem zs_295_2 : zrun zP sv C 295 2 [l0] (.int x :: .ref a :: st) h = zpfd (h.1 a) 13 31 0 (.int x) (fun c => zrun zP sv C 295 5 [l0] st (zup h a c)) := zx_putf (x0 := 0) rfl rfl
theorem zs_295_5 : zrun zP sv C 295 5 [.val (.ref a)] st h = zrun zP sv C 295 6 [.val (.ref a)] (.ref a :: st) h := zx_go rfl rfl
theorem zs_295_6 : zrun zP sv C 295 6 [l0] (.ref a :: st) h = zfld (h.1 a) 13 3 (fun v => zrun zP sv C 295 9 [l0] (v :: st) h) := zx_getf rfl rfl
theorem zs_295_9 : zrun zP sv C 295 9 [l0] [.int x] h = some (.inl (some (.int x)), h) := zx_end rfl rfl
theorem zs_296_0 : zrun zP sv C 296 0 [.val (.ref a), l1] st h = zrun zP sv C 296 1 [.val (.ref a), l1] (.ref a :: st) h := zx_go rfl rfl
theorem zs_296_1 : zrun zP sv C 296 1 [l0, l1] st h = zrun zP sv C 296 2 [l0, l1] (.int 0 :: st) h := zx_go rfl rfl
theorem zs_296_2 : zrun zP sv C 296 2 [l0, l1] (.int x :: .ref a :: st) h = zpfd (h.1 a) 13 31 0 (.int x) (fun c => zrun zP sv C 296 5 [l0, l1] st (zup h a c)) := zx_putf (x0 := 0) rfl rfl
theorem zs_296_5 : zrun zP sv C 296 5 [.val (.ref a), l1] st h = zrun zP sv C 296 6 [.val (.ref a), l1] (.ref a :: st) h := zx_go rfl rfl
theorem zs_296_6 : zrun zP sv C 296 6 [l0, l1] (.ref a :: st) h = zfld (h.1 a) 13 3 (fun v => zrun zP sv C 296 9 [l0, l1] (v :: st) h) := zx_getf rfl rfl
theorem zs_296_9 : zrun zP sv C 296 9 [l0, l1] (.int x :: st) h = if x = 0 then zrun zP sv C 296 12 [l0, l1] st h else zrun zP sv C 296 18 [l0, l1] st h := (zx_if rfl rfl).trans zc1_if
theorem zs_296_12 : zrun zP sv C 296 12 [.val (.ref a), l1] st h = zrun zP sv C 296 13 [.val (.ref a), l1] (.ref a :: st) h := zx_go rfl rfl
theorem zs_296_13 : zrun zP sv C 296 13 [l0, l1] st h = zrun zP sv C 296 14 [l0, l1] (.int (nI 1) :: st) h := zx_go rfl rfl
theorem zs_296_14 : zrun zP sv C 296 14 [l0, l1] [v1, .ref b] h = zrc (h.1 b) 13 (zbk (C 198 [.ref b, v1] h) (fun v h' => zrun zP sv C 296 17 [l0, l1] (v.toList ++ []) h') (fun E h' => some (.inr E, h'))) := zx_cv (x0 := 13) rfl rfl rfl rfl rfl ⟨Nat.le_of_ble_eq_true rfl, rfl⟩ (fun _ _ => rfl)
theorem zs_296_17 : zrun zP sv C 296 17 [l0, l1] [.int x] h = some (.inl (some (.int x)), h) := zx_end rfl rfl
theorem zs_296_18 : zrun zP sv C 296 18 [.val (.ref a), l1] st h = zrun zP sv C 296 19 [.val (.ref a), l1] (.ref a :: st) h := zx_go rfl rfl
theorem zs_296_19 : zrun zP sv C 296 19 [l0, l1] (.ref a :: st) h = zrun zP sv C 296 20 [l0, l1] (.ref a :: .ref a :: st) h := zx_go rfl rfl
theorem zs_296_20 : zrun zP sv C 296 20 [l0, l1] (.ref a :: st) h = zfld (h.1 a) 13 3 (fun v => zrun zP sv C 296 23 [l0, l1] (v :: st) h) := zx_getf rfl rfl
theorem zs_296_23 : zrun zP sv C 296 23 [l0, l1] st h = zrun zP sv C 296 24 [l0, l1] (.int (nI 1) :: st) h := zx_go rfl rfl
theorem zs_296_24 : zrun zP sv C 296 24 [l0, l1] (.int y :: .int x :: st) h = zrun zP sv C 296 25 [l0, l1] (.int (x - y) :: st) h := zx_go rfl rfl
theorem zs_296_25 : zrun zP sv C 296 25 [l0, l1] (.int x :: .ref a :: st) h = zpfd (h.1 a) 13 3 0 (.int x) (fun c => zrun zP sv C 296 28 [l0, l1] st (zup h a c)) := zx_putf (x0 := 0) rfl rfl
theorem zs_296_28 : zrun zP sv C 296 28 [l0, l1] st h = zrun zP sv C 296 29 [l0, l1] (.int 0 :: st) h := zx_go rfl rfl
theorem zs_296_29 (hs : znw l1 = true) : zrun zP sv C 296 29 [l0, l1] (.int x :: st) h = zrun zP sv C 296 30 [l0, .val (.int x)] st h := zx_st hs rfl rfl rfl rfl rfl rfl
theorem zs_296_30 : zrun zP sv C 296 30 [l0, .val (.int x)] st h = zrun zP sv C 296 31 [l0, .val (.int x)] (.int x :: st) h := zx_go rfl rfl
theorem zs_296_31 : zrun zP sv C 296 31 [l0, l1] st h = zrun zP sv C 296 34 [l0, l1] (.int (nI 387) :: st) h := zx_go rfl rfl
theorem zs_296_34 : zrun zP sv C 296 34 [l0, l1] (.int y :: .int x :: st) h = if x < y then zrun zP sv C 296 37 [l0, l1] st h else zrun zP sv C 296 64 [l0, l1] st h := (zx_ic rfl rfl).trans zc3_if
theorem zs_296_37 : zrun zP sv C 296 37 [.val (.ref a), l1] st h = zrun zP sv C 296 38 [.val (.ref a), l1] (.ref a :: st) h := zx_go rfl rfl
theorem zs_296_38 : zrun zP sv C 296 38 [l0, l1] (.ref a :: st) h = zfld (h.1 a) 13 0 (fun v => zrun zP sv C 296 41 [l0, l1] (v :: st) h) := zx_getf rfl rfl
theorem zs_296_41 : zrun zP sv C 296 41 [l0, .val (.int x)] st h = zrun zP sv C 296 42 [l0, .val (.int x)] (.int x :: st) h := zx_go rfl rfl
theorem zs_296_42 : zrun zP sv C 296 42 [.val (.ref a), l1] st h = zrun zP sv C 296 43 [.val (.ref a), l1] (.ref a :: st) h := zx_go rfl rfl
theorem zs_296_43 : zrun zP sv C 296 43 [l0, l1] (.ref a :: st) h = zfld (h.1 a) 13 2 (fun v => zrun zP sv C 296 46 [l0, l1] (v :: st) h) := zx_getf rfl rfl
theorem zs_296_46 : zrun zP sv C 296 46 [l0, l1] st h = zrun zP sv C 296 49 [l0, l1] (.int (nI 387) :: st) h := zx_go rfl rfl
theorem zs_296_49 : zrun zP sv C 296 49 [.val (.ref a), l1] st h = zrun zP sv C 296 50 [.val (.ref a), l1] (.ref a :: st) h := zx_go rfl rfl
theorem zs_296_50 : zrun zP sv C 296 50 [l0, l1] (.ref a :: st) h = zfld (h.1 a) 13 3 (fun v => zrun zP sv C 296 53 [l0, l1] (v :: st) h) := zx_getf rfl rfl
theorem zs_296_53 : zrun zP sv C 296 53 [l0, l1] (.int y :: .int x :: st) h = zrun zP sv C 296 54 [l0, l1] (.int (x * y) :: st) h := zx_go rfl rfl
theorem zs_296_54 : zrun zP sv C 296 54 [l0, .val (.int x)] st h = zrun zP sv C 296 55 [l0, .val (.int x)] (.int x :: st) h := zx_go rfl rfl
theorem zs_296_55 : zrun zP sv C 296 55 [l0, l1] (.int y :: .int x :: st) h = zrun zP sv C 296 56 [l0, l1] (.int (x + y) :: st) h := zx_go rfl rfl
theorem zs_296_56 : zrun zP sv C 296 56 [l0, l1] (.int x :: .ref a :: st) h = zael (h.1 a) 20 x (fun v => zrun zP sv C 296 57 [l0, l1] (v :: st) h) := zx_ald rfl rfl
theorem zs_296_57 : zrun zP sv C 296 57 [l0, l1] (.int y :: .int x :: .ref a :: st) h = zaset (h.1 a) 20 x (.int y) (fun c => zrun zP sv C 296 58 [l0, l1] st (zup h a c)) := zx_ast rfl rfl
theorem zs_296_58 : zrun zP sv C 296 58 [l0, .val (.int x)] st h = zrun zP sv C 296 61 [l0, .val (.int (x + (nI 1)))] st h := zx_ii rfl rfl rfl rfl rfl
theorem zs_296_61 : zrun zP sv C 296 61 [l0, l1] st h = zrun zP sv C 296 30 [l0, l1] st h := zx_go rfl rfl
theorem zs_296_64 : zrun zP sv C 296 64 [.val (.ref a), l1] st h = zrun zP sv C 296 65 [.val (.ref a), l1] (.ref a :: st) h := zx_go rfl rfl
theorem zs_296_65 : zrun zP sv C 296 65 [l0, l1] (.ref a :: st) h = zfld (h.1 a) 13 3 (fun v => zrun zP sv C 296 68 [l0, l1] (v :: st) h) := zx_getf rfl rfl
theorem zs_296_68 : zrun zP sv C 296 68 [l0, l1] [.int x] h = some (.inl (some (.int x)), h) := zx_end rfl rfl
theorem zs_297_0 : zrun zP sv C 297 0 [.val (.ref a), l1] st h = zrun zP sv C 297 1 [.val (.ref a), l1] (.ref a :: st) h := zx_go rfl rfl
theorem zs_297_1 : zrun zP sv C 297 1 [l0, l1] st h = zrun zP sv C 297 2 [l0, l1] (.int 0 :: st) h := zx_go rfl rfl
theorem zs_297_2 : zrun zP sv C 297 2 [l0, l1] (.int x :: .ref a :: st) h = zpfd (h.1 a) 13 31 0 (.int x) (fun c => zrun zP sv C 297 5 [l0, l1] st (zup h a c)) := zx_putf (x0 := 0) rfl rfl
theorem zs_297_5 : zrun zP sv C 297 5 [.val (.ref a), l1] st h = zrun zP sv C 297 6 [.val (.ref a), l1] (.ref a :: st) h := zx_go rfl rfl
theorem zs_297_6 : zrun zP sv C 297 6 [l0, l1] st h = zrun zP sv C 297 7 [l0, l1] (.int (nI 1) :: st) h := zx_go rfl rfl
theorem zs_297_7 : zrun zP sv C 297 7 [l0, l1] (.int x :: .ref a :: st) h = zpfd (h.1 a) 13 5 5 (.int x) (fun c => zrun zP sv C 297 10 [l0, l1] st (zup h a c)) := zx_putf (x0 := 5) rfl rfl
theorem zs_297_10 : zrun zP sv C 297 10 [l0, l1] st h = zrun zP sv C 297 11 [l0, l1] (.int 0 :: st) h := zx_go rfl rfl
theorem zs_297_11 (hs : znw l1 = true) : zrun zP sv C 297 11 [l0, l1] (.int x :: st) h = zrun zP sv C 297 12 [l0, .val (.int x)] st h := zx_st hs rfl rfl rfl rfl rfl rfl
theorem zs_297_12 : zrun zP sv C 297 12 [l0, .val (.int x)] st h = zrun zP sv C 297 13 [l0, .val (.int x)] (.int x :: st) h := zx_go rfl rfl
theorem zs_297_13 : zrun zP sv C 297 13 [l0, l1] st h = zrun zP sv C 297 16 [l0, l1] (.int (nI 387) :: st) h := zx_go rfl rfl
theorem zs_297_16 : zrun zP sv C 297 16 [l0, l1] (.int y :: .int x :: st) h = if x < y then zrun zP sv C 297 19 [l0, l1] st h else zrun zP sv C 297 37 [l0, l1] st h := (zx_ic rfl rfl).trans zc3_if
theorem zs_297_19 : zrun zP sv C 297 19 [.val (.ref a), l1] st h = zrun zP sv C 297 20 [.val (.ref a), l1] (.ref a :: st) h := zx_go rfl rfl
theorem zs_297_20 : zrun zP sv C 297 20 [l0, l1] (.ref a :: st) h = zfld (h.1 a) 13 4 (fun v => zrun zP sv C 297 23 [l0, l1] (v :: st) h) := zx_getf rfl rfl
theorem zs_297_23 : zrun zP sv C 297 23 [l0, .val (.int x)] st h = zrun zP sv C 297 24 [l0, .val (.int x)] (.int x :: st) h := zx_go rfl rfl
theorem zs_297_24 : zrun zP sv C 297 24 [.val (.ref a), l1] st h = zrun zP sv C 297 25 [.val (.ref a), l1] (.ref a :: st) h := zx_go rfl rfl
theorem zs_297_25 : zrun zP sv C 297 25 [l0, l1] (.ref a :: st) h = zfld (h.1 a) 13 0 (fun v => zrun zP sv C 297 28 [l0, l1] (v :: st) h) := zx_getf rfl rfl
theorem zs_297_28 : zrun zP sv C 297 28 [l0, .val (.int x)] st h = zrun zP sv C 297 29 [l0, .val (.int x)] (.int x :: st) h := zx_go rfl rfl
theorem zs_297_29 : zrun zP sv C 297 29 [l0, l1] (.int x :: .ref a :: st) h = zael (h.1 a) 20 x (fun v => zrun zP sv C 297 30 [l0, l1] (v :: st) h) := zx_ald rfl rfl
theorem zs_297_30 : zrun zP sv C 297 30 [l0, l1] (.int y :: .int x :: .ref a :: st) h = zaset (h.1 a) 20 x (.int y) (fun c => zrun zP sv C 297 31 [l0, l1] st (zup h a c)) := zx_ast rfl rfl
theorem zs_297_31 : zrun zP sv C 297 31 [l0, .val (.int x)] st h = zrun zP sv C 297 34 [l0, .val (.int (x + (nI 1)))] st h := zx_ii rfl rfl rfl rfl rfl
theorem zs_297_34 : zrun zP sv C 297 34 [l0, l1] st h = zrun zP sv C 297 12 [l0, l1] st h := zx_go rfl rfl
theorem zs_297_37 : zrun zP sv C 297 37 [.val (.ref a), l1] st h = zrun zP sv C 297 38 [.val (.ref a), l1] (.ref a :: st) h := zx_go rfl rfl
theorem zs_297_38 : zrun zP sv C 297 38 [l0, l1] (.ref a :: st) h = zfld (h.1 a) 13 0 (fun v => zrun zP sv C 297 41 [l0, l1] (v :: st) h) := zx_getf rfl rfl
theorem zs_297_41 : zrun zP sv C 297 41 [l0, l1] st h = zrun zP sv C 297 42 [l0, l1] (.int 0 :: st) h := zx_go rfl rfl
theorem zs_297_42 : zrun zP sv C 297 42 [l0, l1] (.int x :: .ref a :: st) h = zael (h.1 a) 20 x (fun v => zrun zP sv C 297 43 [l0, l1] (v :: st) h) := zx_ald rfl rfl
theorem zs_297_43 : zrun zP sv C 297 43 [l0, l1] [.int x] h = some (.inl (some (.int x)), h) := zx_end rfl rfl
theorem zs_298_0 : zrun zP sv C 298 0 [.val (.ref a), l1] st h = zrun zP sv C 298 1 [.val (.ref a), l1] (.ref a :: st) h := zx_go rfl rfl
theorem zs_298_1 : zrun zP sv C 298 1 [l0, l1] st h = zrun zP sv C 298 2 [l0, l1] (.int 0 :: st) h := zx_go rfl rfl
theorem zs_298_2 : zrun zP sv C 298 2 [l0, l1] (.int x :: .ref a :: st) h = zpfd (h.1 a) 13 31 0 (.int x) (fun c => zrun zP sv C 298 5 [l0, l1] st (zup h a c)) := zx_putf (x0 := 0) rfl rfl
theorem zs_298_5 : zrun zP sv C 298 5 [.val (.ref a), l1] st h = zrun zP sv C 298 6 [.val (.ref a), l1] (.ref a :: st) h := zx_go rfl rfl
theorem zs_298_6 : zrun zP sv C 298 6 [l0, l1] (.ref a :: st) h = zfld (h.1 a) 13 5 (fun v => zrun zP sv C 298 9 [l0, l1] (v :: st) h) := zx_getf rfl rfl
theorem zs_298_9 : zrun zP sv C 298 9 [l0, l1] (.int x :: st) h = if x = 0 then zrun zP sv C 298 12 [l0, l1] st h else zrun zP sv C 298 18 [l0, l1] st h := (zx_if rfl rfl).trans zc1_if
theorem zs_298_12 : zrun zP sv C 298 12 [.val (.ref a), l1] st h = zrun zP sv C 298 13 [.val (.ref a), l1] (.ref a :: st) h := zx_go rfl rfl
theorem zs_298_13 : zrun zP sv C 298 13 [l0, l1] st h = zrun zP sv C 298 14 [l0, l1] (.int (nI 1) :: st) h := zx_go rfl rfl
theorem zs_298_14 : zrun zP sv C 298 14 [l0, l1] [v1, .ref b] h = zrc (h.1 b) 13 (zbk (C 198 [.ref b, v1] h) (fun v h' => zrun zP sv C 298 17 [l0, l1] (v.toList ++ []) h') (fun E h' => some (.inr E, h'))) := zx_cv (x0 := 13) rfl rfl rfl rfl rfl ⟨Nat.le_of_ble_eq_true rfl, rfl⟩ (fun _ _ => rfl)
theorem zs_298_17 : zrun zP sv C 298 17 [l0, l1] [.int x] h = some (.inl (some (.int x)), h) := zx_end rfl rfl
theorem zs_298_18 : zrun zP sv C 298 18 [l0, l1] st h = zrun zP sv C 298 19 [l0, l1] (.int 0 :: st) h := zx_go rfl rfl
theorem zs_298_19 (hs : znw l1 = true) : zrun zP sv C 298 19 [l0, l1] (.int x :: st) h = zrun zP sv C 298 20 [l0, .val (.int x)] st h := zx_st hs rfl rfl rfl rfl rfl rfl
theorem zs_298_20 : zrun zP sv C 298 20 [l0, .val (.int x)] st h = zrun zP sv C 298 21 [l0, .val (.int x)] (.int x :: st) h := zx_go rfl rfl
theorem zs_298_21 : zrun zP sv C 298 21 [l0, l1] st h = zrun zP sv C 298 24 [l0, l1] (.int (nI 387) :: st) h := zx_go rfl rfl
theorem zs_298_24 : zrun zP sv C 298 24 [l0, l1] (.int y :: .int x :: st) h = if x < y then zrun zP sv C 298 27 [l0, l1] st h else zrun zP sv C 298 45 [l0, l1] st h := (zx_ic rfl rfl).trans zc3_if
theorem zs_298_27 : zrun zP sv C 298 27 [.val (.ref a), l1] st h = zrun zP sv C 298 28 [.val (.ref a), l1] (.ref a :: st) h := zx_go rfl rfl
theorem zs_298_28 : zrun zP sv C 298 28 [l0, l1] (.ref a :: st) h = zfld (h.1 a) 13 0 (fun v => zrun zP sv C 298 31 [l0, l1] (v :: st) h) := zx_getf rfl rfl
theorem zs_298_31 : zrun zP sv C 298 31 [l0, .val (.int x)] st h = zrun zP sv C 298 32 [l0, .val (.int x)] (.int x :: st) h := zx_go rfl rfl
theorem zs_298_32 : zrun zP sv C 298 32 [.val (.ref a), l1] st h = zrun zP sv C 298 33 [.val (.ref a), l1] (.ref a :: st) h := zx_go rfl rfl
theorem zs_298_33 : zrun zP sv C 298 33 [l0, l1] (.ref a :: st) h = zfld (h.1 a) 13 4 (fun v => zrun zP sv C 298 36 [l0, l1] (v :: st) h) := zx_getf rfl rfl
theorem zs_298_36 : zrun zP sv C 298 36 [l0, .val (.int x)] st h = zrun zP sv C 298 37 [l0, .val (.int x)] (.int x :: st) h := zx_go rfl rfl
theorem zs_298_37 : zrun zP sv C 298 37 [l0, l1] (.int x :: .ref a :: st) h = zael (h.1 a) 20 x (fun v => zrun zP sv C 298 38 [l0, l1] (v :: st) h) := zx_ald rfl rfl
theorem zs_298_38 : zrun zP sv C 298 38 [l0, l1] (.int y :: .int x :: .ref a :: st) h = zaset (h.1 a) 20 x (.int y) (fun c => zrun zP sv C 298 39 [l0, l1] st (zup h a c)) := zx_ast rfl rfl
theorem zs_298_39 : zrun zP sv C 298 39 [l0, .val (.int x)] st h = zrun zP sv C 298 42 [l0, .val (.int (x + (nI 1)))] st h := zx_ii rfl rfl rfl rfl rfl
theorem zs_298_42 : zrun zP sv C 298 42 [l0, l1] st h = zrun zP sv C 298 20 [l0, l1] st h := zx_go rfl rfl
theorem zs_298_45 : zrun zP sv C 298 45 [.val (.ref a), l1] st h = zrun zP sv C 298 46 [.val (.ref a), l1] (.ref a :: st) h := zx_go rfl rfl
theorem zs_298_46 : zrun zP sv C 298 46 [l0, l1] st h = zrun zP sv C 298 47 [l0, l1] (.int 0 :: st) h := zx_go rfl rfl
theorem zs_298_47 : zrun zP sv C 298 47 [l0, l1] (.int x :: .ref a :: st) h = zpfd (h.1 a) 13 3 0 (.int x) (fun c => zrun zP sv C 298 50 [l0, l1] st (zup h a c)) := zx_putf (x0 := 0) rfl rfl
theorem zs_298_50 : zrun zP sv C 298 50 [.val (.ref a), l1] st h = zrun zP sv C 298 51 [.val (.ref a), l1] (.ref a :: st) h := zx_go rfl rfl
theorem zs_298_51 : zrun zP sv C 298 51 [l0, l1] (.ref a :: st) h = zfld (h.1 a) 13 0 (fun v => zrun zP sv C 298 54 [l0, l1] (v :: st) h) := zx_getf rfl rfl
theorem zs_298_54 : zrun zP sv C 298 54 [l0, l1] st h = zrun zP sv C 298 55 [l0, l1] (.int 0 :: st) h := zx_go rfl rfl
theorem zs_298_55 : zrun zP sv C 298 55 [l0, l1] (.int x :: .ref a :: st) h = zael (h.1 a) 20 x (fun v => zrun zP sv C 298 56 [l0, l1] (v :: st) h) := zx_ald rfl rfl
theorem zs_298_56 : zrun zP sv C 298 56 [l0, l1] [.int x] h = some (.inl (some (.int x)), h) := zx_end rfl rfl
theorem zw_1_99 : zswp (zP.2.2.2.1 1) 108 (nI 99) = 40 := by decide +kernel
theorem zw_1_110 : zswp (zP.2.2.2.1 1) 108 (nI 110) = 86 := by decide +kernel
theorem zw_1_118 : zswp (zP.2.2.2.1 1) 108 (nI 118) = 64 := by decide +kernel
theorem zw_2_42 : zswp (zP.2.2.2.1 2) 162 (nI 42) = 100 := by decide +kernel
theorem zw_2_99 : zswp (zP.2.2.2.1 2) 162 (nI 99) = 48 := by decide +kernel
theorem zw_2_110 : zswp (zP.2.2.2.1 2) 162 (nI 110) = 84 := by decide +kernel
theorem zw_2_118 : zswp (zP.2.2.2.1 2) 162 (nI 118) = 48 := by decide +kernel
end ZSTEPS
