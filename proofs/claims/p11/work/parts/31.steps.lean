/-! Steps, one an instruction. Printed by wip/gen/steps.py. -/
section ZSTEPS
variable {sv : Nat → Value} {C : zCall} {h : zH} {st : List Value} {x y z : Int32} {xl yl : Int64} {xf xg : UInt32} {xd xe : UInt64} {a b c : Nat} {w0 w1 w2 w3 w4 w5 w6 w7 w8 : Int32} {q0 q1 q2 q3 q4 q5 q6 q7 q8 : Nat} {v0 v1 v2 v3 v4 v5 v6 r0 r1 r2 r3 r4 r5 : Value} {l0 l1 l2 l3 l4 l5 l6 l7 l8 l9 l10 l11 : Slot}
theorem zs_0_0 : zrun zP sv C 0 0 [.val (.ref a)] st h = zrun zP sv C 0 1 [.val (.ref a)] (.ref a :: st) h := zx_go rfl rfl
theorem zs_0_0n : zrun zP sv C 0 0 [.val .null] st h = zrun zP sv C 0 1 [.val .null] (.null :: st) h := zx_go rfl rfl
theorem zs_0_1 : zrun zP sv C 0 1 [l0] st h = zrun zP sv C 0 3 [l0] (.int (nI 16) :: st) h := zx_go rfl rfl
theorem zs_0_3 : zrun zP sv C 0 3 [l0] [v1, .ref b] h = zrc (h.1 b) 2 (zbk (C 1 [.ref b, v1] h) (fun v h' => zrun zP sv C 0 6 [l0] (v.toList ++ []) h') (fun E h' => some (.inr E, h'))) := zx_cv (x0 := 2) rfl rfl rfl rfl rfl ⟨Nat.le_of_ble_eq_true rfl, rfl⟩ (fun _ _ => rfl)
theorem zs_0_6 : zrun zP sv C 0 6 [l0] [] h = some (.inl none, h) := zx_end rfl rfl
theorem zs_1_0 : zrun zP sv C 1 0 [.val (.ref a), l1] st h = zrun zP sv C 1 1 [.val (.ref a), l1] (.ref a :: st) h := zx_go rfl rfl
theorem zs_1_0n : zrun zP sv C 1 0 [.val .null, l1] st h = zrun zP sv C 1 1 [.val .null, l1] (.null :: st) h := zx_go rfl rfl
theorem zs_1_1 : zrun zP sv C 1 1 [l0, l1] [.ref a] h = zrun zP sv C 1 4 [l0, l1] [] h := zx_go rfl rfl
theorem zs_1_4 : zrun zP sv C 1 4 [l0, l1] st h = zrun zP sv C 1 7 [l0, l1] (sv 0 :: st) h := zx_go rfl rfl
theorem zs_1_7 : zrun zP sv C 1 7 [l0, l1] (.int x :: st) h = if x = 0 then zrun zP sv C 1 25 [l0, l1] st h else zrun zP sv C 1 10 [l0, l1] st h := (zx_if rfl rfl).trans zc0_if
theorem zs_1_10 : zrun zP sv C 1 10 [.val (.ref a), l1] st h = zrun zP sv C 1 11 [.val (.ref a), l1] (.ref a :: st) h := zx_go rfl rfl
theorem zs_1_10n : zrun zP sv C 1 10 [.val .null, l1] st h = zrun zP sv C 1 11 [.val .null, l1] (.null :: st) h := zx_go rfl rfl
theorem zs_1_11 : zrun zP sv C 1 11 [l0, .val (.int x)] st h = zrun zP sv C 1 12 [l0, .val (.int x)] (.int x :: st) h := zx_go rfl rfl
theorem zs_1_12 : zrun zP sv C 1 12 [l0, l1] (.int x :: st) h = znwa x (fun q => zrun zP sv C 1 14 [l0, l1] (.ref h.2.1 :: st) (znew h (24, List.replicate q (.int 0)) q)) := zx_nwa rfl rfl
theorem zs_1_14 : zrun zP sv C 1 14 [l0, l1] (.ref b :: .ref a :: st) h = zpfd (h.1 a) 2 0 4 (.ref b) (fun c => zrun zP sv C 1 17 [l0, l1] st (zup h a c)) := zx_putf (x0 := 4) rfl rfl
theorem zs_1_14n : zrun zP sv C 1 14 [l0, l1] (.null :: .ref a :: st) h = zpfd (h.1 a) 2 0 4 (.null) (fun c => zrun zP sv C 1 17 [l0, l1] st (zup h a c)) := zx_putf (x0 := 4) rfl rfl
theorem zs_1_17 : zrun zP sv C 1 17 [.val (.ref a), l1] st h = zrun zP sv C 1 18 [.val (.ref a), l1] (.ref a :: st) h := zx_go rfl rfl
theorem zs_1_17n : zrun zP sv C 1 17 [.val .null, l1] st h = zrun zP sv C 1 18 [.val .null, l1] (.null :: st) h := zx_go rfl rfl
theorem zs_1_18 : zrun zP sv C 1 18 [l0, l1] st h = zrun zP sv C 1 19 [l0, l1] (.int 0 :: st) h := zx_go rfl rfl
theorem zs_1_19 : zrun zP sv C 1 19 [l0, l1] (.int x :: .ref a :: st) h = zpfd (h.1 a) 2 1 6 (.int x) (fun c => zrun zP sv C 1 22 [l0, l1] st (zup h a c)) := zx_putf (x0 := 6) rfl rfl
theorem zs_1_22 : zrun zP sv C 1 22 [l0, l1] st h = zrun zP sv C 1 38 [l0, l1] st h := zx_go rfl rfl
theorem zs_1_25 : zrun zP sv C 1 25 [.val (.ref a), l1] st h = zrun zP sv C 1 26 [.val (.ref a), l1] (.ref a :: st) h := zx_go rfl rfl
theorem zs_1_25n : zrun zP sv C 1 25 [.val .null, l1] st h = zrun zP sv C 1 26 [.val .null, l1] (.null :: st) h := zx_go rfl rfl
theorem zs_1_26 : zrun zP sv C 1 26 [l0, .val (.int x)] st h = zrun zP sv C 1 27 [l0, .val (.int x)] (.int x :: st) h := zx_go rfl rfl
theorem zs_1_38 : zrun zP sv C 1 38 [l0, l1] [] h = some (.inl none, h) := zx_end rfl rfl
theorem zs_2_0 : zrun zP sv C 2 0 [.val (.ref a), l1] st h = zrun zP sv C 2 1 [.val (.ref a), l1] (.ref a :: st) h := zx_go rfl rfl
theorem zs_2_0n : zrun zP sv C 2 0 [.val .null, l1] st h = zrun zP sv C 2 1 [.val .null, l1] (.null :: st) h := zx_go rfl rfl
theorem zs_2_1 : zrun zP sv C 2 1 [l0, .val (.int x)] st h = zrun zP sv C 2 2 [l0, .val (.int x)] (.int x :: st) h := zx_go rfl rfl
theorem zs_2_2 : zrun zP sv C 2 2 [l0, l1] [v1, .ref b] h = zrc (h.1 b) 2 (zbk (C 3 [.ref b, v1] h) (fun v h' => zrun zP sv C 2 5 [l0, l1] (v.toList ++ []) h') (fun E h' => some (.inr E, h'))) := zx_cv (x0 := 2) rfl rfl rfl rfl rfl ⟨Nat.le_of_ble_eq_true rfl, rfl⟩ (fun _ _ => rfl)
theorem zs_2_5 : zrun zP sv C 2 5 [l0, l1] [] h = some (.inl none, h) := zx_end rfl rfl
theorem zs_3_0 : zrun zP sv C 3 0 [l0, .val (.int x)] st h = zrun zP sv C 3 1 [l0, .val (.int x)] (.int x :: st) h := zx_go rfl rfl
theorem zs_3_1 : zrun zP sv C 3 1 [l0, l1] (.int x :: st) h = if x < 0 then zrun zP sv C 3 4 [l0, l1] st h else zrun zP sv C 3 13 [l0, l1] st h := (zx_if rfl rfl).trans zc3_if
theorem zs_3_13 : zrun zP sv C 3 13 [.val (.ref a), l1] st h = zrun zP sv C 3 14 [.val (.ref a), l1] (.ref a :: st) h := zx_go rfl rfl
theorem zs_3_13n : zrun zP sv C 3 13 [.val .null, l1] st h = zrun zP sv C 3 14 [.val .null, l1] (.null :: st) h := zx_go rfl rfl
theorem zs_3_14 : zrun zP sv C 3 14 [l0, .val (.int x)] st h = zrun zP sv C 3 15 [l0, .val (.int x)] (.int x :: st) h := zx_go rfl rfl
theorem zs_3_15 : zrun zP sv C 3 15 [l0, l1] [v1, .ref b] h = zrc (h.1 b) 2 (zbk (C 4 [.ref b, v1] h) (fun v h' => zrun zP sv C 3 18 [l0, l1] (v.toList ++ []) h') (fun E h' => some (.inr E, h'))) := zx_cv (x0 := 2) rfl rfl rfl rfl rfl ⟨Nat.le_of_ble_eq_true rfl, rfl⟩ (fun _ _ => rfl)
theorem zs_3_18 : zrun zP sv C 3 18 [.val (.ref a), l1] st h = zrun zP sv C 3 19 [.val (.ref a), l1] (.ref a :: st) h := zx_go rfl rfl
theorem zs_3_18n : zrun zP sv C 3 18 [.val .null, l1] st h = zrun zP sv C 3 19 [.val .null, l1] (.null :: st) h := zx_go rfl rfl
theorem zs_3_19 : zrun zP sv C 3 19 [l0, l1] (.ref a :: st) h = zfld (h.1 a) 2 3 (fun v => zrun zP sv C 3 22 [l0, l1] (v :: st) h) := zx_getf rfl rfl
theorem zs_3_22 : zrun zP sv C 3 22 [l0, .val (.int x)] st h = zrun zP sv C 3 23 [l0, .val (.int x)] (.int x :: st) h := zx_go rfl rfl
theorem zs_3_23 : zrun zP sv C 3 23 [l0, l1] (.int y :: .int x :: st) h = if x < y then zrun zP sv C 3 26 [l0, l1] st h else zrun zP sv C 3 63 [l0, l1] st h := (zx_ic rfl rfl).trans zc3_if
theorem zs_3_26 : zrun zP sv C 3 26 [.val (.ref a), l1] st h = zrun zP sv C 3 27 [.val (.ref a), l1] (.ref a :: st) h := zx_go rfl rfl
theorem zs_3_26n : zrun zP sv C 3 26 [.val .null, l1] st h = zrun zP sv C 3 27 [.val .null, l1] (.null :: st) h := zx_go rfl rfl
theorem zs_3_27 : zrun zP sv C 3 27 [l0, l1] [.ref b] h = zrc (h.1 b) 2 (zbk (C 8 [.ref b] h) (fun v h' => zrun zP sv C 3 30 [l0, l1] (v.toList ++ []) h') (fun E h' => some (.inr E, h'))) := zx_cv (x0 := 2) rfl rfl rfl rfl rfl ⟨Nat.le_of_ble_eq_true rfl, rfl⟩ (fun _ _ => rfl)
theorem zs_3_30 : zrun zP sv C 3 30 [l0, l1] (.int x :: st) h = if x = 0 then zrun zP sv C 3 48 [l0, l1] st h else zrun zP sv C 3 33 [l0, l1] st h := (zx_if rfl rfl).trans zc0_if
theorem zs_3_33 : zrun zP sv C 3 33 [.val (.ref a), l1] st h = zrun zP sv C 3 34 [.val (.ref a), l1] (.ref a :: st) h := zx_go rfl rfl
theorem zs_3_33n : zrun zP sv C 3 33 [.val .null, l1] st h = zrun zP sv C 3 34 [.val .null, l1] (.null :: st) h := zx_go rfl rfl
theorem zs_3_34 : zrun zP sv C 3 34 [l0, l1] (.ref a :: st) h = zfld (h.1 a) 2 0 (fun v => zrun zP sv C 3 37 [l0, l1] (v :: st) h) := zx_getf rfl rfl
theorem zs_3_37 : zrun zP sv C 3 37 [.val (.ref a), l1] st h = zrun zP sv C 3 38 [.val (.ref a), l1] (.ref a :: st) h := zx_go rfl rfl
theorem zs_3_37n : zrun zP sv C 3 37 [.val .null, l1] st h = zrun zP sv C 3 38 [.val .null, l1] (.null :: st) h := zx_go rfl rfl
theorem zs_3_38 : zrun zP sv C 3 38 [l0, l1] (.ref a :: st) h = zfld (h.1 a) 2 3 (fun v => zrun zP sv C 3 41 [l0, l1] (v :: st) h) := zx_getf rfl rfl
theorem zs_3_41 : zrun zP sv C 3 41 [l0, .val (.int x)] st h = zrun zP sv C 3 42 [l0, .val (.int x)] (.int x :: st) h := zx_go rfl rfl
theorem zs_3_48 : zrun zP sv C 3 48 [.val (.ref a), l1] st h = zrun zP sv C 3 49 [.val (.ref a), l1] (.ref a :: st) h := zx_go rfl rfl
theorem zs_3_48n : zrun zP sv C 3 48 [.val .null, l1] st h = zrun zP sv C 3 49 [.val .null, l1] (.null :: st) h := zx_go rfl rfl
theorem zs_3_49 : zrun zP sv C 3 49 [l0, l1] (.ref a :: st) h = zfld (h.1 a) 2 0 (fun v => zrun zP sv C 3 52 [l0, l1] (v :: st) h) := zx_getf rfl rfl
theorem zs_3_52 : zrun zP sv C 3 52 [.val (.ref a), l1] st h = zrun zP sv C 3 53 [.val (.ref a), l1] (.ref a :: st) h := zx_go rfl rfl
theorem zs_3_52n : zrun zP sv C 3 52 [.val .null, l1] st h = zrun zP sv C 3 53 [.val .null, l1] (.null :: st) h := zx_go rfl rfl
theorem zs_3_53 : zrun zP sv C 3 53 [l0, l1] (.ref a :: st) h = zfld (h.1 a) 2 3 (fun v => zrun zP sv C 3 56 [l0, l1] (v :: st) h) := zx_getf rfl rfl
theorem zs_3_56 : zrun zP sv C 3 56 [l0, .val (.int x)] st h = zrun zP sv C 3 57 [l0, .val (.int x)] (.int x :: st) h := zx_go rfl rfl
theorem zs_3_63 : zrun zP sv C 3 63 [.val (.ref a), l1] st h = zrun zP sv C 3 64 [.val (.ref a), l1] (.ref a :: st) h := zx_go rfl rfl
theorem zs_3_63n : zrun zP sv C 3 63 [.val .null, l1] st h = zrun zP sv C 3 64 [.val .null, l1] (.null :: st) h := zx_go rfl rfl
theorem zs_3_64 : zrun zP sv C 3 64 [l0, l1] (.ref a :: st) h = zfld (h.1 a) 2 3 (fun v => zrun zP sv C 3 67 [l0, l1] (v :: st) h) := zx_getf rfl rfl
theorem zs_3_67 : zrun zP sv C 3 67 [l0, .val (.int x)] st h = zrun zP sv C 3 68 [l0, .val (.int x)] (.int x :: st) h := zx_go rfl rfl
theorem zs_3_68 : zrun zP sv C 3 68 [l0, l1] (.int y :: .int x :: st) h = if y < x then zrun zP sv C 3 71 [l0, l1] st h else zrun zP sv C 3 76 [l0, l1] st h := (zx_ic rfl rfl).trans zc5_if
theorem zs_3_71 : zrun zP sv C 3 71 [.val (.ref a), l1] st h = zrun zP sv C 3 72 [.val (.ref a), l1] (.ref a :: st) h := zx_go rfl rfl
theorem zs_3_71n : zrun zP sv C 3 71 [.val .null, l1] st h = zrun zP sv C 3 72 [.val .null, l1] (.null :: st) h := zx_go rfl rfl
theorem zs_3_72 : zrun zP sv C 3 72 [l0, l1] st h = zrun zP sv C 3 73 [l0, l1] (.int (nI 1) :: st) h := zx_go rfl rfl
theorem zs_3_73 : zrun zP sv C 3 73 [l0, l1] (.int x :: .ref a :: st) h = zpfd (h.1 a) 2 2 5 (.int x) (fun c => zrun zP sv C 3 76 [l0, l1] st (zup h a c)) := zx_putf (x0 := 5) rfl rfl
theorem zs_3_76 : zrun zP sv C 3 76 [.val (.ref a), l1] st h = zrun zP sv C 3 77 [.val (.ref a), l1] (.ref a :: st) h := zx_go rfl rfl
theorem zs_3_76n : zrun zP sv C 3 76 [.val .null, l1] st h = zrun zP sv C 3 77 [.val .null, l1] (.null :: st) h := zx_go rfl rfl
theorem zs_3_77 : zrun zP sv C 3 77 [l0, .val (.int x)] st h = zrun zP sv C 3 78 [l0, .val (.int x)] (.int x :: st) h := zx_go rfl rfl
theorem zs_3_78 : zrun zP sv C 3 78 [l0, l1] (.int x :: .ref a :: st) h = zpfd (h.1 a) 2 3 0 (.int x) (fun c => zrun zP sv C 3 81 [l0, l1] st (zup h a c)) := zx_putf (x0 := 0) rfl rfl
theorem zs_3_81 : zrun zP sv C 3 81 [l0, l1] [] h = some (.inl none, h) := zx_end rfl rfl
theorem zs_4_0 : zrun zP sv C 4 0 [.val (.ref a), l1, l2] st h = zrun zP sv C 4 1 [.val (.ref a), l1, l2] (.ref a :: st) h := zx_go rfl rfl
theorem zs_4_0n : zrun zP sv C 4 0 [.val .null, l1, l2] st h = zrun zP sv C 4 1 [.val .null, l1, l2] (.null :: st) h := zx_go rfl rfl
theorem zs_4_1 : zrun zP sv C 4 1 [l0, l1, l2] (.ref a :: st) h = zfld (h.1 a) 2 0 (fun v => zrun zP sv C 4 4 [l0, l1, l2] (v :: st) h) := zx_getf rfl rfl
theorem zs_4_4 : zrun zP sv C 4 4 [l0, l1, l2] (.ref a :: st) h = zaln (h.1 a) (fun v => zrun zP sv C 4 5 [l0, l1, l2] (.int v :: st) h) := zx_aln rfl rfl
theorem zs_4_5 : zrun zP sv C 4 5 [.val (.ref a), l1, l2] st h = zrun zP sv C 4 6 [.val (.ref a), l1, l2] (.ref a :: st) h := zx_go rfl rfl
theorem zs_4_5n : zrun zP sv C 4 5 [.val .null, l1, l2] st h = zrun zP sv C 4 6 [.val .null, l1, l2] (.null :: st) h := zx_go rfl rfl
theorem zs_4_6 : zrun zP sv C 4 6 [l0, l1, l2] (.ref a :: st) h = zfld (h.1 a) 2 1 (fun v => zrun zP sv C 4 9 [l0, l1, l2] (v :: st) h) := zx_getf rfl rfl
theorem zs_4_9 : zrun zP sv C 4 9 [l0, l1, l2] (.int y :: .int x :: st) h = zrun zP sv C 4 10 [l0, l1, l2] (.int (x >>> (y &&& 31)) :: st) h := zx_go rfl rfl
theorem zs_4_10 (hs : znw l2 = true) : zrun zP sv C 4 10 [l0, l1, l2] (.int x :: st) h = zrun zP sv C 4 11 [l0, l1, .val (.int x)] st h := zx_st hs rfl rfl rfl rfl rfl rfl
theorem zs_4_11 : zrun zP sv C 4 11 [l0, .val (.int x), l2] st h = zrun zP sv C 4 12 [l0, .val (.int x), l2] (.int x :: st) h := zx_go rfl rfl
theorem zs_4_12 : zrun zP sv C 4 12 [l0, l1, .val (.int x)] st h = zrun zP sv C 4 13 [l0, l1, .val (.int x)] (.int x :: st) h := zx_go rfl rfl
theorem zs_4_13 : zrun zP sv C 4 13 [l0, l1, l2] (.int y :: .int x :: st) h = zrun zP sv C 4 14 [l0, l1, l2] (.int (x - y) :: st) h := zx_go rfl rfl
theorem zs_4_14 : zrun zP sv C 4 14 [l0, l1, l2] (.int x :: st) h = if 0 < x then zrun zP sv C 4 17 [l0, l1, l2] st h else zrun zP sv C 4 38 [l0, l1, l2] st h := (zx_if rfl rfl).trans zc5_if
theorem zs_4_17 : zrun zP sv C 4 17 [.val (.ref a), l1, l2] st h = zrun zP sv C 4 18 [.val (.ref a), l1, l2] (.ref a :: st) h := zx_go rfl rfl
theorem zs_4_17n : zrun zP sv C 4 17 [.val .null, l1, l2] st h = zrun zP sv C 4 18 [.val .null, l1, l2] (.null :: st) h := zx_go rfl rfl
theorem zs_4_18 : zrun zP sv C 4 18 [.val (.ref a), l1, l2] st h = zrun zP sv C 4 19 [.val (.ref a), l1, l2] (.ref a :: st) h := zx_go rfl rfl
theorem zs_4_18n : zrun zP sv C 4 18 [.val .null, l1, l2] st h = zrun zP sv C 4 19 [.val .null, l1, l2] (.null :: st) h := zx_go rfl rfl
theorem zs_4_19 : zrun zP sv C 4 19 [l0, l1, l2] (.ref a :: st) h = zfld (h.1 a) 2 0 (fun v => zrun zP sv C 4 22 [l0, l1, l2] (v :: st) h) := zx_getf rfl rfl
theorem zs_4_22 : zrun zP sv C 4 22 [.val (.ref a), l1, l2] st h = zrun zP sv C 4 23 [.val (.ref a), l1, l2] (.ref a :: st) h := zx_go rfl rfl
theorem zs_4_22n : zrun zP sv C 4 22 [.val .null, l1, l2] st h = zrun zP sv C 4 23 [.val .null, l1, l2] (.null :: st) h := zx_go rfl rfl
theorem zs_4_23 : zrun zP sv C 4 23 [l0, .val (.int x), l2] st h = zrun zP sv C 4 24 [l0, .val (.int x), l2] (.int x :: st) h := zx_go rfl rfl
theorem zs_4_24 : zrun zP sv C 4 24 [l0, l1, l2] [v1, .ref b, r0, r1] h = zrc (h.1 b) 2 (zbk (C 5 [.ref b, v1] h) (fun v h' => zrun zP sv C 4 27 [l0, l1, l2] (v.toList ++ [r0, r1]) h') (fun E h' => some (.inr E, h'))) := zx_cv (x0 := 2) rfl rfl rfl rfl rfl ⟨Nat.le_of_ble_eq_true rfl, rfl⟩ (fun _ _ => rfl)
theorem zs_4_27 : zrun zP sv C 4 27 [.val (.ref a), l1, l2] st h = zrun zP sv C 4 28 [.val (.ref a), l1, l2] (.ref a :: st) h := zx_go rfl rfl
theorem zs_4_27n : zrun zP sv C 4 27 [.val .null, l1, l2] st h = zrun zP sv C 4 28 [.val .null, l1, l2] (.null :: st) h := zx_go rfl rfl
theorem zs_4_28 : zrun zP sv C 4 28 [l0, l1, l2] (.ref a :: st) h = zfld (h.1 a) 2 1 (fun v => zrun zP sv C 4 31 [l0, l1, l2] (v :: st) h) := zx_getf rfl rfl
theorem zs_4_31 : zrun zP sv C 4 31 [l0, l1, l2] (.int y :: .int x :: st) h = zrun zP sv C 4 32 [l0, l1, l2] (.int (x <<< (y &&& 31)) :: st) h := zx_go rfl rfl
theorem zs_4_32 : zrun zP sv C 4 32 [l0, l1, l2] [v1, v0, r0] h = zbk (C 7 [v0, v1] h) (fun v h' => zrun zP sv C 4 35 [l0, l1, l2] (v.toList ++ [r0]) h') (fun E h' => some (.inr E, h')) := zx_cs rfl rfl rfl rfl ⟨Nat.le_of_ble_eq_true rfl, rfl⟩ (fun _ _ => rfl)
theorem zs_4_35 : zrun zP sv C 4 35 [l0, l1, l2] (.ref b :: .ref a :: st) h = zpfd (h.1 a) 2 0 4 (.ref b) (fun c => zrun zP sv C 4 38 [l0, l1, l2] st (zup h a c)) := zx_putf (x0 := 4) rfl rfl
theorem zs_4_35n : zrun zP sv C 4 35 [l0, l1, l2] (.null :: .ref a :: st) h = zpfd (h.1 a) 2 0 4 (.null) (fun c => zrun zP sv C 4 38 [l0, l1, l2] st (zup h a c)) := zx_putf (x0 := 4) rfl rfl
theorem zs_4_38 : zrun zP sv C 4 38 [l0, l1, l2] [] h = some (.inl none, h) := zx_end rfl rfl
theorem zs_5_0 : zrun zP sv C 5 0 [.val (.ref a), l1, l2, l3, l4, l5] st h = zrun zP sv C 5 1 [.val (.ref a), l1, l2, l3, l4, l5] (.ref a :: st) h := zx_go rfl rfl
theorem zs_5_0n : zrun zP sv C 5 0 [.val .null, l1, l2, l3, l4, l5] st h = zrun zP sv C 5 1 [.val .null, l1, l2, l3, l4, l5] (.null :: st) h := zx_go rfl rfl
theorem zs_5_1 : zrun zP sv C 5 1 [l0, l1, l2, l3, l4, l5] (.ref a :: st) h = zfld (h.1 a) 2 0 (fun v => zrun zP sv C 5 4 [l0, l1, l2, l3, l4, l5] (v :: st) h) := zx_getf rfl rfl
theorem zs_5_4 : zrun zP sv C 5 4 [l0, l1, l2, l3, l4, l5] (.ref a :: st) h = zaln (h.1 a) (fun v => zrun zP sv C 5 5 [l0, l1, l2, l3, l4, l5] (.int v :: st) h) := zx_aln rfl rfl
theorem zs_5_5 (hs : znw l2 = true) : zrun zP sv C 5 5 [l0, l1, l2, l3, l4, l5] (.int x :: st) h = zrun zP sv C 5 6 [l0, l1, .val (.int x), l3, l4, l5] st h := zx_st hs rfl rfl rfl rfl rfl rfl
theorem zs_5_6 : zrun zP sv C 5 6 [l0, .val (.int x), l2, l3, l4, l5] st h = zrun zP sv C 5 7 [l0, .val (.int x), l2, l3, l4, l5] (.int x :: st) h := zx_go rfl rfl
theorem zs_5_7 : zrun zP sv C 5 7 [.val (.ref a), l1, l2, l3, l4, l5] st h = zrun zP sv C 5 8 [.val (.ref a), l1, l2, l3, l4, l5] (.ref a :: st) h := zx_go rfl rfl
theorem zs_5_7n : zrun zP sv C 5 7 [.val .null, l1, l2, l3, l4, l5] st h = zrun zP sv C 5 8 [.val .null, l1, l2, l3, l4, l5] (.null :: st) h := zx_go rfl rfl
theorem zs_5_8 : zrun zP sv C 5 8 [l0, l1, l2, l3, l4, l5] (.ref a :: st) h = zfld (h.1 a) 2 1 (fun v => zrun zP sv C 5 11 [l0, l1, l2, l3, l4, l5] (v :: st) h) := zx_getf rfl rfl
theorem zs_5_11 : zrun zP sv C 5 11 [l0, l1, l2, l3, l4, l5] (.int y :: .int x :: st) h = zrun zP sv C 5 12 [l0, l1, l2, l3, l4, l5] (.int (x <<< (y &&& 31)) :: st) h := zx_go rfl rfl
theorem zs_5_12 (hs : znw l3 = true) : zrun zP sv C 5 12 [l0, l1, l2, l3, l4, l5] (.int x :: st) h = zrun zP sv C 5 13 [l0, l1, l2, .val (.int x), l4, l5] st h := zx_st hs rfl rfl rfl rfl rfl rfl
theorem zs_5_13 : zrun zP sv C 5 13 [l0, l1, l2, .val (.int x), l4, l5] st h = zrun zP sv C 5 14 [l0, l1, l2, .val (.int x), l4, l5] (.int x :: st) h := zx_go rfl rfl
theorem zs_5_14 : zrun zP sv C 5 14 [l0, l1, .val (.int x), l3, l4, l5] st h = zrun zP sv C 5 15 [l0, l1, .val (.int x), l3, l4, l5] (.int x :: st) h := zx_go rfl rfl
theorem zs_5_15 : zrun zP sv C 5 15 [l0, l1, l2, l3, l4, l5] (.int y :: .int x :: st) h = zrun zP sv C 5 16 [l0, l1, l2, l3, l4, l5] (.int (x - y) :: st) h := zx_go rfl rfl
theorem zs_5_16 (hs : znw l4 = true) : zrun zP sv C 5 16 [l0, l1, l2, l3, l4, l5] (.int x :: st) h = zrun zP sv C 5 18 [l0, l1, l2, l3, .val (.int x), l5] st h := zx_st hs rfl rfl rfl rfl rfl rfl
theorem zs_5_18 : zrun zP sv C 5 18 [l0, l1, .val (.int x), l3, l4, l5] st h = zrun zP sv C 5 19 [l0, l1, .val (.int x), l3, l4, l5] (.int x :: st) h := zx_go rfl rfl
theorem zs_5_19 : zrun zP sv C 5 19 [l0, l1, l2, l3, .val (.int x), l5] st h = zrun zP sv C 5 21 [l0, l1, l2, l3, .val (.int x), l5] (.int x :: st) h := zx_go rfl rfl
theorem zs_5_21 : zrun zP sv C 5 21 [l0, l1, .val (.int x), l3, l4, l5] st h = zrun zP sv C 5 22 [l0, l1, .val (.int x), l3, l4, l5] (.int x :: st) h := zx_go rfl rfl
theorem zs_5_22 : zrun zP sv C 5 22 [l0, l1, l2, l3, l4, l5] st h = zrun zP sv C 5 23 [l0, l1, l2, l3, l4, l5] (.int (nI 2) :: st) h := zx_go rfl rfl
theorem zs_5_23 : zrun zP sv C 5 23 [.val (.ref a), l1, l2, l3, l4, l5] st h = zrun zP sv C 5 24 [.val (.ref a), l1, l2, l3, l4, l5] (.ref a :: st) h := zx_go rfl rfl
theorem zs_5_23n : zrun zP sv C 5 23 [.val .null, l1, l2, l3, l4, l5] st h = zrun zP sv C 5 24 [.val .null, l1, l2, l3, l4, l5] (.null :: st) h := zx_go rfl rfl
theorem zs_5_24 : zrun zP sv C 5 24 [l0, l1, l2, l3, l4, l5] (.ref a :: st) h = zfld (h.1 a) 2 1 (fun v => zrun zP sv C 5 27 [l0, l1, l2, l3, l4, l5] (v :: st) h) := zx_getf rfl rfl
theorem zs_5_27 : zrun zP sv C 5 27 [l0, l1, l2, l3, l4, l5] (.int y :: .int x :: st) h = zrun zP sv C 5 28 [l0, l1, l2, l3, l4, l5] (.int (x <<< (y &&& 31)) :: st) h := zx_go rfl rfl
theorem zs_5_28 : zrun zP sv C 5 28 [l0, l1, l2, l3, l4, l5] (.int y :: .int x :: st) h = zrun zP sv C 5 29 [l0, l1, l2, l3, l4, l5] (.int (x + y) :: st) h := zx_go rfl rfl
theorem zs_5_29 : zrun zP sv C 5 29 [l0, l1, l2, l3, l4, l5] [v2, v1, v0] h = zbk (C 6 [v0, v1, v2] h) (fun v h' => zrun zP sv C 5 32 [l0, l1, l2, l3, l4, l5] (v.toList ++ []) h') (fun E h' => some (.inr E, h')) := zx_cs rfl rfl rfl rfl ⟨Nat.le_of_ble_eq_true rfl, rfl⟩ (fun _ _ => rfl)
theorem zs_5_32 (hs : znw l5 = true) : zrun zP sv C 5 32 [l0, l1, l2, l3, l4, l5] (.int x :: st) h = zrun zP sv C 5 34 [l0, l1, l2, l3, l4, .val (.int x)] st h := zx_st hs rfl rfl rfl rfl rfl rfl
theorem zs_5_34 : zrun zP sv C 5 34 [l0, l1, l2, l3, l4, .val (.int x)] st h = zrun zP sv C 5 36 [l0, l1, l2, l3, l4, .val (.int x)] (.int x :: st) h := zx_go rfl rfl
theorem zs_5_36 : zrun zP sv C 5 36 [l0, l1, l2, l3, l4, l5] st h = zrun zP sv C 5 38 [l0, l1, l2, l3, l4, l5] (.int (nI 2147483647) :: st) h := zx_go rfl rfl
theorem zs_5_38 : zrun zP sv C 5 38 [l0, l1, l2, l3, l4, l5] (.int y :: .int x :: st) h = if x = y then zrun zP sv C 5 41 [l0, l1, l2, l3, l4, l5] st h else zrun zP sv C 5 51 [l0, l1, l2, l3, l4, l5] st h := (zx_ic rfl rfl).trans zc1_if
theorem zs_5_51 : zrun zP sv C 5 51 [l0, l1, l2, l3, l4, .val (.int x)] st h = zrun zP sv C 5 53 [l0, l1, l2, l3, l4, .val (.int x)] (.int x :: st) h := zx_go rfl rfl
theorem zs_5_53 : zrun zP sv C 5 53 [.val (.ref a), l1, l2, l3, l4, l5] st h = zrun zP sv C 5 54 [.val (.ref a), l1, l2, l3, l4, l5] (.ref a :: st) h := zx_go rfl rfl
theorem zs_5_53n : zrun zP sv C 5 53 [.val .null, l1, l2, l3, l4, l5] st h = zrun zP sv C 5 54 [.val .null, l1, l2, l3, l4, l5] (.null :: st) h := zx_go rfl rfl
theorem zs_5_54 : zrun zP sv C 5 54 [l0, l1, l2, l3, l4, l5] (.ref a :: st) h = zfld (h.1 a) 2 1 (fun v => zrun zP sv C 5 57 [l0, l1, l2, l3, l4, l5] (v :: st) h) := zx_getf rfl rfl
theorem zs_5_57 : zrun zP sv C 5 57 [l0, l1, l2, l3, l4, l5] (.int y :: .int x :: st) h = zrun zP sv C 5 58 [l0, l1, l2, l3, l4, l5] (.int (x >>> (y &&& 31)) :: st) h := zx_go rfl rfl
theorem zs_5_58 : zrun zP sv C 5 58 [l0, l1, l2, l3, l4, l5] [.int x] h = some (.inl (some (.int x)), h) := zx_end rfl rfl
theorem zs_6_0 : zrun zP sv C 6 0 [.val (.int x), l1, l2, l3] st h = zrun zP sv C 6 1 [.val (.int x), l1, l2, l3] (.int x :: st) h := zx_go rfl rfl
theorem zs_6_1 : zrun zP sv C 6 1 [l0, .val (.int x), l2, l3] st h = zrun zP sv C 6 2 [l0, .val (.int x), l2, l3] (.int x :: st) h := zx_go rfl rfl
theorem zs_6_2 : zrun zP sv C 6 2 [l0, l1, .val (.int x), l3] st h = zrun zP sv C 6 3 [l0, l1, .val (.int x), l3] (.int x :: st) h := zx_go rfl rfl
theorem zs_6_3 : zrun zP sv C 6 3 [l0, l1, l2, l3] [.int y, .int x, r0] h = zrun zP sv C 6 6 [l0, l1, l2, l3] [.int (if x < y then y else x), r0] h := zx_go rfl rfl
theorem zs_6_6 : zrun zP sv C 6 6 [l0, l1, l2, l3] (.int y :: .int x :: st) h = zrun zP sv C 6 7 [l0, l1, l2, l3] (.int (x + y) :: st) h := zx_go rfl rfl
theorem zs_6_7 (hs : znw l3 = true) : zrun zP sv C 6 7 [l0, l1, l2, l3] (.int x :: st) h = zrun zP sv C 6 8 [l0, l1, l2, .val (.int x)] st h := zx_st hs rfl rfl rfl rfl rfl rfl
theorem zs_6_8 : zrun zP sv C 6 8 [l0, l1, l2, l3] st h = zrun zP sv C 6 9 [l0, l1, l2, l3] (.int 0 :: st) h := zx_go rfl rfl
theorem zs_6_9 : zrun zP sv C 6 9 [l0, l1, l2, .val (.int x)] st h = zrun zP sv C 6 10 [l0, l1, l2, .val (.int x)] (.int x :: st) h := zx_go rfl rfl
theorem zs_6_10 : zrun zP sv C 6 10 [l0, l1, l2, l3] (.int y :: .int x :: st) h = if x < y then zrun zP sv C 6 13 [l0, l1, l2, l3] st h else zrun zP sv C 6 21 [l0, l1, l2, l3] st h := (zx_ic rfl rfl).trans zc3_if
theorem zs_6_13 : zrun zP sv C 6 13 [l0, l1, l2, .val (.int x)] st h = zrun zP sv C 6 14 [l0, l1, l2, .val (.int x)] (.int x :: st) h := zx_go rfl rfl
theorem zs_6_14 : zrun zP sv C 6 14 [l0, l1, l2, l3] st h = zrun zP sv C 6 16 [l0, l1, l2, l3] (.int (nI 2147483639) :: st) h := zx_go rfl rfl
theorem zs_6_16 : zrun zP sv C 6 16 [l0, l1, l2, l3] (.int y :: .int x :: st) h = if y < x then zrun zP sv C 6 21 [l0, l1, l2, l3] st h else zrun zP sv C 6 19 [l0, l1, l2, l3] st h := (zx_ic rfl rfl).trans zc4_if
theorem zs_6_19 : zrun zP sv C 6 19 [l0, l1, l2, .val (.int x)] st h = zrun zP sv C 6 20 [l0, l1, l2, .val (.int x)] (.int x :: st) h := zx_go rfl rfl
theorem zs_6_20 : zrun zP sv C 6 20 [l0, l1, l2, l3] [.int x] h = some (.inl (some (.int x)), h) := zx_end rfl rfl
theorem zs_6_21 : zrun zP sv C 6 21 [.val (.int x), l1, l2, l3] st h = zrun zP sv C 6 22 [.val (.int x), l1, l2, l3] (.int x :: st) h := zx_go rfl rfl
theorem zs_6_22 : zrun zP sv C 6 22 [l0, .val (.int x), l2, l3] st h = zrun zP sv C 6 23 [l0, .val (.int x), l2, l3] (.int x :: st) h := zx_go rfl rfl
theorem zs_7_0 : zrun zP sv C 7 0 [l0, .val (.int x), l2] st h = zrun zP sv C 7 1 [l0, .val (.int x), l2] (.int x :: st) h := zx_go rfl rfl
theorem zs_7_1 : zrun zP sv C 7 1 [.val (.ref a), l1, l2] st h = zrun zP sv C 7 2 [.val (.ref a), l1, l2] (.ref a :: st) h := zx_go rfl rfl
theorem zs_7_1n : zrun zP sv C 7 1 [.val .null, l1, l2] st h = zrun zP sv C 7 2 [.val .null, l1, l2] (.null :: st) h := zx_go rfl rfl
theorem zs_7_2 : zrun zP sv C 7 2 [l0, l1, l2] (.ref a :: st) h = zaln (h.1 a) (fun v => zrun zP sv C 7 3 [l0, l1, l2] (.int v :: st) h) := zx_aln rfl rfl
theorem zs_7_3 : zrun zP sv C 7 3 [l0, l1, l2] (.int y :: .int x :: st) h = if x = y then zrun zP sv C 7 6 [l0, l1, l2] st h else zrun zP sv C 7 14 [l0, l1, l2] st h := (zx_ic rfl rfl).trans zc1_if
theorem zs_7_6 : zrun zP sv C 7 6 [.val (.ref a), l1, l2] st h = zrun zP sv C 7 7 [.val (.ref a), l1, l2] (.ref a :: st) h := zx_go rfl rfl
theorem zs_7_6n : zrun zP sv C 7 6 [.val .null, l1, l2] st h = zrun zP sv C 7 7 [.val .null, l1, l2] (.null :: st) h := zx_go rfl rfl
theorem zs_7_14 : zrun zP sv C 7 14 [l0, .val (.int x), l2] st h = zrun zP sv C 7 15 [l0, .val (.int x), l2] (.int x :: st) h := zx_go rfl rfl
theorem zs_7_15 : zrun zP sv C 7 15 [l0, l1, l2] (.int x :: st) h = znwa x (fun q => zrun zP sv C 7 17 [l0, l1, l2] (.ref h.2.1 :: st) (znew h (24, List.replicate q (.int 0)) q)) := zx_nwa rfl rfl
theorem zs_7_17 (hs : znw l2 = true) : zrun zP sv C 7 17 [l0, l1, l2] (.ref a :: st) h = zrun zP sv C 7 18 [l0, l1, .val (.ref a)] st h := zx_st hs rfl rfl rfl rfl rfl rfl
theorem zs_7_17n (hs : znw l2 = true) : zrun zP sv C 7 17 [l0, l1, l2] (.null :: st) h = zrun zP sv C 7 18 [l0, l1, .val (.null)] st h := zx_st hs rfl rfl rfl rfl rfl rfl
theorem zs_7_18 : zrun zP sv C 7 18 [.val (.ref a), l1, l2] st h = zrun zP sv C 7 19 [.val (.ref a), l1, l2] (.ref a :: st) h := zx_go rfl rfl
theorem zs_7_18n : zrun zP sv C 7 18 [.val .null, l1, l2] st h = zrun zP sv C 7 19 [.val .null, l1, l2] (.null :: st) h := zx_go rfl rfl
theorem zs_7_19 : zrun zP sv C 7 19 [l0, l1, l2] st h = zrun zP sv C 7 20 [l0, l1, l2] (.int 0 :: st) h := zx_go rfl rfl
theorem zs_7_20 : zrun zP sv C 7 20 [l0, l1, .val (.ref a)] st h = zrun zP sv C 7 21 [l0, l1, .val (.ref a)] (.ref a :: st) h := zx_go rfl rfl
theorem zs_7_20n : zrun zP sv C 7 20 [l0, l1, .val .null] st h = zrun zP sv C 7 21 [l0, l1, .val .null] (.null :: st) h := zx_go rfl rfl
theorem zs_7_21 : zrun zP sv C 7 21 [l0, l1, l2] st h = zrun zP sv C 7 22 [l0, l1, l2] (.int 0 :: st) h := zx_go rfl rfl
theorem zs_7_22 : zrun zP sv C 7 22 [.val (.ref a), l1, l2] st h = zrun zP sv C 7 23 [.val (.ref a), l1, l2] (.ref a :: st) h := zx_go rfl rfl
theorem zs_7_22n : zrun zP sv C 7 22 [.val .null, l1, l2] st h = zrun zP sv C 7 23 [.val .null, l1, l2] (.null :: st) h := zx_go rfl rfl
theorem zs_7_23 : zrun zP sv C 7 23 [l0, l1, l2] (.ref a :: st) h = zaln (h.1 a) (fun v => zrun zP sv C 7 24 [l0, l1, l2] (.int v :: st) h) := zx_aln rfl rfl
theorem zs_7_24 : zrun zP sv C 7 24 [l0, .val (.int x), l2] st h = zrun zP sv C 7 25 [l0, .val (.int x), l2] (.int x :: st) h := zx_go rfl rfl
theorem zs_7_25 : zrun zP sv C 7 25 [l0, l1, l2] [.int y, .int x, r0, r1, r2, r3] h = zrun zP sv C 7 28 [l0, l1, l2] [.int (if y < x then y else x), r0, r1, r2, r3] h := zx_go rfl rfl
theorem zs_7_28 : zrun zP sv C 7 28 [l0, l1, l2] st h = znx zP sv C 7 28 [l0, l1, l2] h (zcopy 31 [l0, l1, l2] st h) := zx_eq rfl rfl
theorem zs_7_31 : zrun zP sv C 7 31 [l0, l1, .val (.ref a)] st h = zrun zP sv C 7 32 [l0, l1, .val (.ref a)] (.ref a :: st) h := zx_go rfl rfl
theorem zs_7_31n : zrun zP sv C 7 31 [l0, l1, .val .null] st h = zrun zP sv C 7 32 [l0, l1, .val .null] (.null :: st) h := zx_go rfl rfl
theorem zs_7_32 : zrun zP sv C 7 32 [l0, l1, l2] [.ref a] h = some (.inl (some (.ref a)), h) := zx_end rfl rfl
theorem zs_7_32n : zrun zP sv C 7 32 [l0, l1, l2] [.null] h = some (.inl (some (.null)), h) := zx_end rfl rfl
theorem zs_8_0 : zrun zP sv C 8 0 [l0] st h = zrun zP sv C 8 3 [l0] (sv 0 :: st) h := zx_go rfl rfl
theorem zs_8_3 : zrun zP sv C 8 3 [l0] (.int x :: st) h = if x = 0 then zrun zP sv C 8 17 [l0] st h else zrun zP sv C 8 6 [l0] st h := (zx_if rfl rfl).trans zc0_if
theorem zs_8_6 : zrun zP sv C 8 6 [.val (.ref a)] st h = zrun zP sv C 8 7 [.val (.ref a)] (.ref a :: st) h := zx_go rfl rfl
theorem zs_8_6n : zrun zP sv C 8 6 [.val .null] st h = zrun zP sv C 8 7 [.val .null] (.null :: st) h := zx_go rfl rfl
theorem zs_8_7 : zrun zP sv C 8 7 [l0] (.ref a :: st) h = zfld (h.1 a) 2 1 (fun v => zrun zP sv C 8 10 [l0] (v :: st) h) := zx_getf rfl rfl
theorem zs_8_10 : zrun zP sv C 8 10 [l0] (.int x :: st) h = if x = 0 then zrun zP sv C 8 13 [l0] st h else zrun zP sv C 8 17 [l0] st h := (zx_if rfl rfl).trans zc1_if
theorem zs_8_13 : zrun zP sv C 8 13 [l0] st h = zrun zP sv C 8 14 [l0] (.int (nI 1) :: st) h := zx_go rfl rfl
theorem zs_8_14 : zrun zP sv C 8 14 [l0] st h = zrun zP sv C 8 18 [l0] st h := zx_go rfl rfl
theorem zs_8_17 : zrun zP sv C 8 17 [l0] st h = zrun zP sv C 8 18 [l0] (.int 0 :: st) h := zx_go rfl rfl
theorem zs_8_18 : zrun zP sv C 8 18 [l0] [.int x] h = zgd (zty 5 (.int x)) (some (.inl (some (.int x)), h)) := zx_rt rfl
theorem zs_9_0 : zrun zP sv C 9 0 [.val (.ref a), l1] st h = zrun zP sv C 9 1 [.val (.ref a), l1] (.ref a :: st) h := zx_go rfl rfl
theorem zs_9_0n : zrun zP sv C 9 0 [.val .null, l1] st h = zrun zP sv C 9 1 [.val .null, l1] (.null :: st) h := zx_go rfl rfl
theorem zs_9_1 : zrun zP sv C 9 1 [l0, .val (.int x)] st h = zrun zP sv C 9 2 [l0, .val (.int x)] (.int x :: st) h := zx_go rfl rfl
theorem zs_9_2 : zrun zP sv C 9 2 [l0, l1] [v1, .ref b] h = zrc (h.1 b) 2 (zbk (C 10 [.ref b, v1] h) (fun v h' => zrun zP sv C 9 5 [l0, l1] (v.toList ++ []) h') (fun E h' => some (.inr E, h'))) := zx_cv (x0 := 2) rfl rfl rfl rfl rfl ⟨Nat.le_of_ble_eq_true rfl, rfl⟩ (fun _ _ => rfl)
theorem zs_9_5 : zrun zP sv C 9 5 [l0, l1] (.ref a :: st) h = zrun zP sv C 9 6 [l0, l1] st h := zx_go rfl rfl
theorem zs_9_5n : zrun zP sv C 9 5 [l0, l1] (.null :: st) h = zrun zP sv C 9 6 [l0, l1] st h := zx_go rfl rfl
theorem zs_9_6 : zrun zP sv C 9 6 [.val (.ref a), l1] st h = zrun zP sv C 9 7 [.val (.ref a), l1] (.ref a :: st) h := zx_go rfl rfl
theorem zs_9_6n : zrun zP sv C 9 6 [.val .null, l1] st h = zrun zP sv C 9 7 [.val .null, l1] (.null :: st) h := zx_go rfl rfl
theorem zs_9_7 : zrun zP sv C 9 7 [l0, l1] [.ref a] h = some (.inl (some (.ref a)), h) := zx_end rfl rfl
theorem zs_9_7n : zrun zP sv C 9 7 [l0, l1] [.null] h = some (.inl (some (.null)), h) := zx_end rfl rfl
theorem zs_10_0 : zrun zP sv C 10 0 [.val (.ref a), l1, l2, l3] st h = zrun zP sv C 10 1 [.val (.ref a), l1, l2, l3] (.ref a :: st) h := zx_go rfl rfl
theorem zs_10_0n : zrun zP sv C 10 0 [.val .null, l1, l2, l3] st h = zrun zP sv C 10 1 [.val .null, l1, l2, l3] (.null :: st) h := zx_go rfl rfl
theorem zs_10_1 : zrun zP sv C 10 1 [l0, l1, l2, l3] (.ref a :: st) h = zfld (h.1 a) 2 3 (fun v => zrun zP sv C 10 4 [l0, l1, l2, l3] (v :: st) h) := zx_getf rfl rfl
theorem zs_10_4 (hs : znw l2 = true) : zrun zP sv C 10 4 [l0, l1, l2, l3] (.int x :: st) h = zrun zP sv C 10 5 [l0, l1, .val (.int x), l3] st h := zx_st hs rfl rfl rfl rfl rfl rfl
theorem zs_10_5 : zrun zP sv C 10 5 [l0, l1, .val (.int x), l3] st h = zrun zP sv C 10 6 [l0, l1, .val (.int x), l3] (.int x :: st) h := zx_go rfl rfl
theorem zs_10_6 : zrun zP sv C 10 6 [l0, .val (.int x), l2, l3] st h = zrun zP sv C 10 7 [l0, .val (.int x), l2, l3] (.int x :: st) h := zx_go rfl rfl
theorem zs_10_7 : zrun zP sv C 10 7 [l0, l1, l2, l3] [v0, r0] h = zbk (C 11 [v0] h) (fun v h' => zrun zP sv C 10 10 [l0, l1, l2, l3] (v.toList ++ [r0]) h') (fun E h' => some (.inr E, h')) := zx_cs rfl rfl rfl rfl ⟨Nat.le_of_ble_eq_true rfl, rfl⟩ (fun _ _ => rfl)
theorem zs_10_10 : zrun zP sv C 10 10 [l0, l1, l2, l3] (.int y :: .int x :: st) h = zrun zP sv C 10 11 [l0, l1, l2, l3] (.int (x + y) :: st) h := zx_go rfl rfl
theorem zs_10_11 (hs : znw l3 = true) : zrun zP sv C 10 11 [l0, l1, l2, l3] (.int x :: st) h = zrun zP sv C 10 12 [l0, l1, l2, .val (.int x)] st h := zx_st hs rfl rfl rfl rfl rfl rfl
theorem zs_10_12 : zrun zP sv C 10 12 [.val (.ref a), l1, l2, l3] st h = zrun zP sv C 10 13 [.val (.ref a), l1, l2, l3] (.ref a :: st) h := zx_go rfl rfl
theorem zs_10_12n : zrun zP sv C 10 12 [.val .null, l1, l2, l3] st h = zrun zP sv C 10 13 [.val .null, l1, l2, l3] (.null :: st) h := zx_go rfl rfl
theorem zs_10_13 : zrun zP sv C 10 13 [l0, l1, l2, .val (.int x)] st h = zrun zP sv C 10 14 [l0, l1, l2, .val (.int x)] (.int x :: st) h := zx_go rfl rfl
theorem zs_10_14 : zrun zP sv C 10 14 [l0, l1, l2, l3] [v1, .ref b] h = zrc (h.1 b) 2 (zbk (C 4 [.ref b, v1] h) (fun v h' => zrun zP sv C 10 17 [l0, l1, l2, l3] (v.toList ++ []) h') (fun E h' => some (.inr E, h'))) := zx_cv (x0 := 2) rfl rfl rfl rfl rfl ⟨Nat.le_of_ble_eq_true rfl, rfl⟩ (fun _ _ => rfl)
theorem zs_10_17 : zrun zP sv C 10 17 [.val (.ref a), l1, l2, l3] st h = zrun zP sv C 10 18 [.val (.ref a), l1, l2, l3] (.ref a :: st) h := zx_go rfl rfl
theorem zs_10_17n : zrun zP sv C 10 17 [.val .null, l1, l2, l3] st h = zrun zP sv C 10 18 [.val .null, l1, l2, l3] (.null :: st) h := zx_go rfl rfl
theorem zs_10_18 : zrun zP sv C 10 18 [l0, l1, l2, l3] [.ref b] h = zrc (h.1 b) 2 (zbk (C 8 [.ref b] h) (fun v h' => zrun zP sv C 10 21 [l0, l1, l2, l3] (v.toList ++ []) h') (fun E h' => some (.inr E, h'))) := zx_cv (x0 := 2) rfl rfl rfl rfl rfl ⟨Nat.le_of_ble_eq_true rfl, rfl⟩ (fun _ _ => rfl)
theorem zs_10_21 : zrun zP sv C 10 21 [l0, l1, l2, l3] (.int x :: st) h = if x = 0 then zrun zP sv C 10 37 [l0, l1, l2, l3] st h else zrun zP sv C 10 24 [l0, l1, l2, l3] st h := (zx_if rfl rfl).trans zc0_if
theorem zs_10_24 : zrun zP sv C 10 24 [l0, .val (.int x), l2, l3] st h = zrun zP sv C 10 25 [l0, .val (.int x), l2, l3] (.int x :: st) h := zx_go rfl rfl
theorem zs_10_25 : zrun zP sv C 10 25 [l0, l1, l2, .val (.int x)] st h = zrun zP sv C 10 26 [l0, l1, l2, .val (.int x)] (.int x :: st) h := zx_go rfl rfl
theorem zs_10_26 : zrun zP sv C 10 26 [.val (.ref a), l1, l2, l3] st h = zrun zP sv C 10 27 [.val (.ref a), l1, l2, l3] (.ref a :: st) h := zx_go rfl rfl
theorem zs_10_26n : zrun zP sv C 10 26 [.val .null, l1, l2, l3] st h = zrun zP sv C 10 27 [.val .null, l1, l2, l3] (.null :: st) h := zx_go rfl rfl
theorem zs_10_27 : zrun zP sv C 10 27 [l0, l1, l2, l3] (.ref a :: st) h = zfld (h.1 a) 2 0 (fun v => zrun zP sv C 10 30 [l0, l1, l2, l3] (v :: st) h) := zx_getf rfl rfl
theorem zs_10_30 : zrun zP sv C 10 30 [l0, l1, l2, l3] [v2, v1, v0] h = zbk (C 12 [v0, v1, v2] h) (fun v h' => zrun zP sv C 10 33 [l0, l1, l2, l3] (v.toList ++ []) h') (fun E h' => some (.inr E, h')) := zx_cs rfl rfl rfl rfl ⟨Nat.le_of_ble_eq_true rfl, rfl⟩ (fun _ _ => rfl)
theorem zs_10_33 : zrun zP sv C 10 33 [l0, l1, l2, l3] (.int x :: st) h = zrun zP sv C 10 34 [l0, l1, l2, l3] st h := zx_go rfl rfl
theorem zs_10_34 : zrun zP sv C 10 34 [l0, l1, l2, l3] st h = zrun zP sv C 10 48 [l0, l1, l2, l3] st h := zx_go rfl rfl
theorem zs_10_37 : zrun zP sv C 10 37 [l0, .val (.int x), l2, l3] st h = zrun zP sv C 10 38 [l0, .val (.int x), l2, l3] (.int x :: st) h := zx_go rfl rfl
theorem zs_10_38 : zrun zP sv C 10 38 [l0, l1, .val (.int x), l3] st h = zrun zP sv C 10 39 [l0, l1, .val (.int x), l3] (.int x :: st) h := zx_go rfl rfl
theorem zs_10_39 : zrun zP sv C 10 39 [l0, l1, l2, .val (.int x)] st h = zrun zP sv C 10 40 [l0, l1, l2, .val (.int x)] (.int x :: st) h := zx_go rfl rfl
theorem zs_10_40 : zrun zP sv C 10 40 [.val (.ref a), l1, l2, l3] st h = zrun zP sv C 10 41 [.val (.ref a), l1, l2, l3] (.ref a :: st) h := zx_go rfl rfl
theorem zs_10_40n : zrun zP sv C 10 40 [.val .null, l1, l2, l3] st h = zrun zP sv C 10 41 [.val .null, l1, l2, l3] (.null :: st) h := zx_go rfl rfl
theorem zs_10_41 : zrun zP sv C 10 41 [l0, l1, l2, l3] (.ref a :: st) h = zfld (h.1 a) 2 0 (fun v => zrun zP sv C 10 44 [l0, l1, l2, l3] (v :: st) h) := zx_getf rfl rfl
theorem zs_10_48 : zrun zP sv C 10 48 [.val (.ref a), l1, l2, l3] st h = zrun zP sv C 10 49 [.val (.ref a), l1, l2, l3] (.ref a :: st) h := zx_go rfl rfl
theorem zs_10_48n : zrun zP sv C 10 48 [.val .null, l1, l2, l3] st h = zrun zP sv C 10 49 [.val .null, l1, l2, l3] (.null :: st) h := zx_go rfl rfl
theorem zs_10_49 : zrun zP sv C 10 49 [l0, l1, l2, .val (.int x)] st h = zrun zP sv C 10 50 [l0, l1, l2, .val (.int x)] (.int x :: st) h := zx_go rfl rfl
theorem zs_10_50 : zrun zP sv C 10 50 [l0, l1, l2, l3] (.int x :: .ref a :: st) h = zpfd (h.1 a) 2 3 0 (.int x) (fun c => zrun zP sv C 10 53 [l0, l1, l2, l3] st (zup h a c)) := zx_putf (x0 := 0) rfl rfl
theorem zs_10_53 : zrun zP sv C 10 53 [.val (.ref a), l1, l2, l3] st h = zrun zP sv C 10 54 [.val (.ref a), l1, l2, l3] (.ref a :: st) h := zx_go rfl rfl
theorem zs_10_53n : zrun zP sv C 10 53 [.val .null, l1, l2, l3] st h = zrun zP sv C 10 54 [.val .null, l1, l2, l3] (.null :: st) h := zx_go rfl rfl
theorem zs_10_54 : zrun zP sv C 10 54 [l0, l1, l2, l3] [.ref a] h = some (.inl (some (.ref a)), h) := zx_end rfl rfl
theorem zs_10_54n : zrun zP sv C 10 54 [l0, l1, l2, l3] [.null] h = some (.inl (some (.null)), h) := zx_end rfl rfl
theorem zs_11_0 : zrun zP sv C 11 0 [l0, l1, l2, l3] st h = zrun zP sv C 11 1 [l0, l1, l2, l3] (.int (nI 1) :: st) h := zx_go rfl rfl
theorem zs_11_1 (hs : znw l1 = true) : zrun zP sv C 11 1 [l0, l1, l2, l3] (.int x :: st) h = zrun zP sv C 11 2 [l0, .val (.int x), l2, l3] st h := zx_st hs rfl rfl rfl rfl rfl rfl
theorem zs_11_2 : zrun zP sv C 11 2 [.val (.int x), l1, l2, l3] st h = zrun zP sv C 11 3 [.val (.int x), l1, l2, l3] (.int x :: st) h := zx_go rfl rfl
theorem zs_11_3 : zrun zP sv C 11 3 [l0, l1, l2, l3] (.int x :: st) h = if x < 0 then zrun zP sv C 11 11 [l0, l1, l2, l3] st h else zrun zP sv C 11 6 [l0, l1, l2, l3] st h := (zx_if rfl rfl).trans zc2_if
theorem zs_11_6 : zrun zP sv C 11 6 [l0, l1, l2, l3] st h = zrun zP sv C 11 7 [l0, l1, l2, l3] (.int 0 :: st) h := zx_go rfl rfl
theorem zs_11_7 (hs : znw l1 = true) : zrun zP sv C 11 7 [l0, l1, l2, l3] (.int x :: st) h = zrun zP sv C 11 8 [l0, .val (.int x), l2, l3] st h := zx_st hs rfl rfl rfl rfl rfl rfl
theorem zs_11_8 : zrun zP sv C 11 8 [.val (.int x), l1, l2, l3] st h = zrun zP sv C 11 9 [.val (.int x), l1, l2, l3] (.int x :: st) h := zx_go rfl rfl
theorem zs_11_9 : zrun zP sv C 11 9 [l0, l1, l2, l3] (.int x :: st) h = zrun zP sv C 11 10 [l0, l1, l2, l3] (.int (-x) :: st) h := zx_go rfl rfl
theorem zs_11_10 (hs : znw l0 = true) : zrun zP sv C 11 10 [l0, l1, l2, l3] (.int x :: st) h = zrun zP sv C 11 11 [.val (.int x), l1, l2, l3] st h := zx_st hs rfl rfl rfl rfl rfl rfl
theorem zs_11_11 : zrun zP sv C 11 11 [l0, l1, l2, l3] st h = zrun zP sv C 11 13 [l0, l1, l2, l3] (.int (-10) :: st) h := zx_go rfl rfl
theorem zs_11_13 (hs : znw l2 = true) : zrun zP sv C 11 13 [l0, l1, l2, l3] (.int x :: st) h = zrun zP sv C 11 14 [l0, l1, .val (.int x), l3] st h := zx_st hs rfl rfl rfl rfl rfl rfl
theorem zs_11_14 : zrun zP sv C 11 14 [l0, l1, l2, l3] st h = zrun zP sv C 11 15 [l0, l1, l2, l3] (.int (nI 1) :: st) h := zx_go rfl rfl
theorem zs_11_15 (hs : znw l3 = true) : zrun zP sv C 11 15 [l0, l1, l2, l3] (.int x :: st) h = zrun zP sv C 11 16 [l0, l1, l2, .val (.int x)] st h := zx_st hs rfl rfl rfl rfl rfl rfl
theorem zs_11_16 : zrun zP sv C 11 16 [l0, l1, l2, .val (.int x)] st h = zrun zP sv C 11 17 [l0, l1, l2, .val (.int x)] (.int x :: st) h := zx_go rfl rfl
theorem zs_11_17 : zrun zP sv C 11 17 [l0, l1, l2, l3] st h = zrun zP sv C 11 19 [l0, l1, l2, l3] (.int (nI 10) :: st) h := zx_go rfl rfl
theorem zs_11_19 : zrun zP sv C 11 19 [l0, l1, l2, l3] (.int y :: .int x :: st) h = if x < y then zrun zP sv C 11 22 [l0, l1, l2, l3] st h else zrun zP sv C 11 42 [l0, l1, l2, l3] st h := (zx_ic rfl rfl).trans zc3_if
theorem zs_11_22 : zrun zP sv C 11 22 [.val (.int x), l1, l2, l3] st h = zrun zP sv C 11 23 [.val (.int x), l1, l2, l3] (.int x :: st) h := zx_go rfl rfl
theorem zs_11_23 : zrun zP sv C 11 23 [l0, l1, .val (.int x), l3] st h = zrun zP sv C 11 24 [l0, l1, .val (.int x), l3] (.int x :: st) h := zx_go rfl rfl
theorem zs_11_24 : zrun zP sv C 11 24 [l0, l1, l2, l3] (.int y :: .int x :: st) h = if y < x then zrun zP sv C 11 27 [l0, l1, l2, l3] st h else zrun zP sv C 11 31 [l0, l1, l2, l3] st h := (zx_ic rfl rfl).trans zc5_if
theorem zs_11_27 : zrun zP sv C 11 27 [l0, l1, l2, .val (.int x)] st h = zrun zP sv C 11 28 [l0, l1, l2, .val (.int x)] (.int x :: st) h := zx_go rfl rfl
theorem zs_11_28 : zrun zP sv C 11 28 [l0, .val (.int x), l2, l3] st h = zrun zP sv C 11 29 [l0, .val (.int x), l2, l3] (.int x :: st) h := zx_go rfl rfl
theorem zs_11_29 : zrun zP sv C 11 29 [l0, l1, l2, l3] (.int y :: .int x :: st) h = zrun zP sv C 11 30 [l0, l1, l2, l3] (.int (x + y) :: st) h := zx_go rfl rfl
theorem zs_11_30 : zrun zP sv C 11 30 [l0, l1, l2, l3] [.int x] h = some (.inl (some (.int x)), h) := zx_end rfl rfl
theorem zs_11_31 : zrun zP sv C 11 31 [l0, l1, l2, l3] st h = zrun zP sv C 11 33 [l0, l1, l2, l3] (.int (nI 10) :: st) h := zx_go rfl rfl
theorem zs_11_33 : zrun zP sv C 11 33 [l0, l1, .val (.int x), l3] st h = zrun zP sv C 11 34 [l0, l1, .val (.int x), l3] (.int x :: st) h := zx_go rfl rfl
theorem zs_11_34 : zrun zP sv C 11 34 [l0, l1, l2, l3] (.int y :: .int x :: st) h = zrun zP sv C 11 35 [l0, l1, l2, l3] (.int (x * y) :: st) h := zx_go rfl rfl
theorem zs_11_35 (hs : znw l2 = true) : zrun zP sv C 11 35 [l0, l1, l2, l3] (.int x :: st) h = zrun zP sv C 11 36 [l0, l1, .val (.int x), l3] st h := zx_st hs rfl rfl rfl rfl rfl rfl
theorem zs_11_36 : zrun zP sv C 11 36 [l0, l1, l2, .val (.int x)] st h = zrun zP sv C 11 39 [l0, l1, l2, .val (.int (x + (nI 1)))] st h := zx_ii rfl rfl rfl rfl rfl
theorem zs_11_39 : zrun zP sv C 11 39 [l0, l1, l2, l3] st h = zrun zP sv C 11 16 [l0, l1, l2, l3] st h := zx_go rfl rfl
theorem zs_11_42 : zrun zP sv C 11 42 [l0, l1, l2, l3] st h = zrun zP sv C 11 44 [l0, l1, l2, l3] (.int (nI 10) :: st) h := zx_go rfl rfl
theorem zs_11_44 : zrun zP sv C 11 44 [l0, .val (.int x), l2, l3] st h = zrun zP sv C 11 45 [l0, .val (.int x), l2, l3] (.int x :: st) h := zx_go rfl rfl
theorem zs_11_45 : zrun zP sv C 11 45 [l0, l1, l2, l3] (.int y :: .int x :: st) h = zrun zP sv C 11 46 [l0, l1, l2, l3] (.int (x + y) :: st) h := zx_go rfl rfl
theorem zs_11_46 : zrun zP sv C 11 46 [l0, l1, l2, l3] [.int x] h = some (.inl (some (.int x)), h) := zx_end rfl rfl
theorem zs_12_0 : zrun zP sv C 12 0 [l0, .val (.int x), l2, l3, l4, l5, l6] st h = zrun zP sv C 12 1 [l0, .val (.int x), l2, l3, l4, l5, l6] (.int x :: st) h := zx_go rfl rfl
theorem zs_12_1 (hs : znw l5 = true) : zrun zP sv C 12 1 [l0, l1, l2, l3, l4, l5, l6] (.int x :: st) h = zrun zP sv C 12 3 [l0, l1, l2, l3, l4, .val (.int x), l6] st h := zx_st hs rfl rfl rfl rfl rfl rfl
theorem zs_12_3 : zrun zP sv C 12 3 [.val (.int x), l1, l2, l3, l4, l5, l6] st h = zrun zP sv C 12 4 [.val (.int x), l1, l2, l3, l4, l5, l6] (.int x :: st) h := zx_go rfl rfl
theorem zs_12_4 : zrun zP sv C 12 4 [l0, l1, l2, l3, l4, l5, l6] (.int x :: st) h = if x < 0 then zrun zP sv C 12 7 [l0, l1, l2, l3, l4, l5, l6] st h else zrun zP sv C 12 11 [l0, l1, l2, l3, l4, l5, l6] st h := (zx_if rfl rfl).trans zc3_if
theorem zs_12_7 : zrun zP sv C 12 7 [l0, l1, l2, l3, l4, l5, l6] st h = zrun zP sv C 12 8 [l0, l1, l2, l3, l4, l5, l6] (.int (nI 1) :: st) h := zx_go rfl rfl
theorem zs_12_8 : zrun zP sv C 12 8 [l0, l1, l2, l3, l4, l5, l6] st h = zrun zP sv C 12 12 [l0, l1, l2, l3, l4, l5, l6] st h := zx_go rfl rfl
theorem zs_12_11 : zrun zP sv C 12 11 [l0, l1, l2, l3, l4, l5, l6] st h = zrun zP sv C 12 12 [l0, l1, l2, l3, l4, l5, l6] (.int 0 :: st) h := zx_go rfl rfl
theorem zs_12_12 (hs : znw l6 = true) : zrun zP sv C 12 12 [l0, l1, l2, l3, l4, l5, l6] (.int x :: st) h = zrun zP sv C 12 14 [l0, l1, l2, l3, l4, l5, .val (.int x)] st h := zx_st hs rfl rfl rfl rfl rfl rfl
theorem zs_12_14 : zrun zP sv C 12 14 [l0, l1, l2, l3, l4, l5, .val (.int x)] st h = zrun zP sv C 12 16 [l0, l1, l2, l3, l4, l5, .val (.int x)] (.int x :: st) h := zx_go rfl rfl
theorem zs_12_16 : zrun zP sv C 12 16 [l0, l1, l2, l3, l4, l5, l6] (.int x :: st) h = if x = 0 then zrun zP sv C 12 19 [l0, l1, l2, l3, l4, l5, l6] st h else zrun zP sv C 12 22 [l0, l1, l2, l3, l4, l5, l6] st h := (zx_if rfl rfl).trans zc1_if
theorem zs_12_19 : zrun zP sv C 12 19 [.val (.int x), l1, l2, l3, l4, l5, l6] st h = zrun zP sv C 12 20 [.val (.int x), l1, l2, l3, l4, l5, l6] (.int x :: st) h := zx_go rfl rfl
theorem zs_12_20 : zrun zP sv C 12 20 [l0, l1, l2, l3, l4, l5, l6] (.int x :: st) h = zrun zP sv C 12 21 [l0, l1, l2, l3, l4, l5, l6] (.int (-x) :: st) h := zx_go rfl rfl
theorem zs_12_21 (hs : znw l0 = true) : zrun zP sv C 12 21 [l0, l1, l2, l3, l4, l5, l6] (.int x :: st) h = zrun zP sv C 12 22 [.val (.int x), l1, l2, l3, l4, l5, l6] st h := zx_st hs rfl rfl rfl rfl rfl rfl
theorem zs_12_22 : zrun zP sv C 12 22 [.val (.int x), l1, l2, l3, l4, l5, l6] st h = zrun zP sv C 12 23 [.val (.int x), l1, l2, l3, l4, l5, l6] (.int x :: st) h := zx_go rfl rfl
theorem zs_12_23 : zrun zP sv C 12 23 [l0, l1, l2, l3, l4, l5, l6] st h = zrun zP sv C 12 25 [l0, l1, l2, l3, l4, l5, l6] (.int (-100) :: st) h := zx_go rfl rfl
theorem zs_12_25 : zrun zP sv C 12 25 [l0, l1, l2, l3, l4, l5, l6] (.int y :: .int x :: st) h = if y < x then zrun zP sv C 12 72 [l0, l1, l2, l3, l4, l5, l6] st h else zrun zP sv C 12 28 [l0, l1, l2, l3, l4, l5, l6] st h := (zx_ic rfl rfl).trans zc4_if
theorem zs_12_28 : zrun zP sv C 12 28 [.val (.int x), l1, l2, l3, l4, l5, l6] st h = zrun zP sv C 12 29 [.val (.int x), l1, l2, l3, l4, l5, l6] (.int x :: st) h := zx_go rfl rfl
theorem zs_12_29 : zrun zP sv C 12 29 [l0, l1, l2, l3, l4, l5, l6] st h = zrun zP sv C 12 31 [l0, l1, l2, l3, l4, l5, l6] (.int (nI 100) :: st) h := zx_go rfl rfl
theorem zs_12_31 : zrun zP sv C 12 31 [l0, l1, l2, l3, l4, l5, l6] (.int (nI 100) :: .int x :: st) h = zrun zP sv C 12 32 [l0, l1, l2, l3, l4, l5, l6] (.int (x / (nI 100)) :: st) h := zx_go rfl rfl
theorem zs_12_32 (hs : znw l3 = true) : zrun zP sv C 12 32 [l0, l1, l2, l3, l4, l5, l6] (.int x :: st) h = zrun zP sv C 12 33 [l0, l1, l2, .val (.int x), l4, l5, l6] st h := zx_st hs rfl rfl rfl rfl rfl rfl
theorem zs_12_33 : zrun zP sv C 12 33 [l0, l1, l2, .val (.int x), l4, l5, l6] st h = zrun zP sv C 12 34 [l0, l1, l2, .val (.int x), l4, l5, l6] (.int x :: st) h := zx_go rfl rfl
theorem zs_12_34 : zrun zP sv C 12 34 [l0, l1, l2, l3, l4, l5, l6] st h = zrun zP sv C 12 36 [l0, l1, l2, l3, l4, l5, l6] (.int (nI 100) :: st) h := zx_go rfl rfl
theorem zs_12_36 : zrun zP sv C 12 36 [l0, l1, l2, l3, l4, l5, l6] (.int y :: .int x :: st) h = zrun zP sv C 12 37 [l0, l1, l2, l3, l4, l5, l6] (.int (x * y) :: st) h := zx_go rfl rfl
theorem zs_12_37 : zrun zP sv C 12 37 [.val (.int x), l1, l2, l3, l4, l5, l6] st h = zrun zP sv C 12 38 [.val (.int x), l1, l2, l3, l4, l5, l6] (.int x :: st) h := zx_go rfl rfl
theorem zs_12_38 : zrun zP sv C 12 38 [l0, l1, l2, l3, l4, l5, l6] (.int y :: .int x :: st) h = zrun zP sv C 12 39 [l0, l1, l2, l3, l4, l5, l6] (.int (x - y) :: st) h := zx_go rfl rfl
theorem zs_12_39 (hs : znw l4 = true) : zrun zP sv C 12 39 [l0, l1, l2, l3, l4, l5, l6] (.int x :: st) h = zrun zP sv C 12 41 [l0, l1, l2, l3, .val (.int x), l5, l6] st h := zx_st hs rfl rfl rfl rfl rfl rfl
theorem zs_12_41 : zrun zP sv C 12 41 [l0, l1, l2, .val (.int x), l4, l5, l6] st h = zrun zP sv C 12 42 [l0, l1, l2, .val (.int x), l4, l5, l6] (.int x :: st) h := zx_go rfl rfl
theorem zs_12_42 (hs : znw l0 = true) : zrun zP sv C 12 42 [l0, l1, l2, l3, l4, l5, l6] (.int x :: st) h = zrun zP sv C 12 43 [.val (.int x), l1, l2, l3, l4, l5, l6] st h := zx_st hs rfl rfl rfl rfl rfl rfl
theorem zs_12_43 : zrun zP sv C 12 43 [l0, l1, .val (.ref a), l3, l4, l5, l6] st h = zrun zP sv C 12 44 [l0, l1, .val (.ref a), l3, l4, l5, l6] (.ref a :: st) h := zx_go rfl rfl
theorem zs_12_43n : zrun zP sv C 12 43 [l0, l1, .val .null, l3, l4, l5, l6] st h = zrun zP sv C 12 44 [l0, l1, .val .null, l3, l4, l5, l6] (.null :: st) h := zx_go rfl rfl
theorem zs_12_44 : zrun zP sv C 12 44 [l0, l1, l2, l3, l4, .val (.int x), l6] st h = zrun zP sv C 12 47 [l0, l1, l2, l3, l4, .val (.int (x + (-1))), l6] st h := zx_ii rfl rfl rfl rfl rfl
theorem zs_12_47 : zrun zP sv C 12 47 [l0, l1, l2, l3, l4, .val (.int x), l6] st h = zrun zP sv C 12 49 [l0, l1, l2, l3, l4, .val (.int x), l6] (.int x :: st) h := zx_go rfl rfl
theorem zs_12_49 : zrun zP sv C 12 49 [l0, l1, l2, l3, l4, l5, l6] st h = zrun zP sv C 12 52 [l0, l1, l2, l3, l4, l5, l6] (sv 1 :: st) h := zx_go rfl rfl
theorem zs_12_52 : zrun zP sv C 12 52 [l0, l1, l2, l3, .val (.int x), l5, l6] st h = zrun zP sv C 12 54 [l0, l1, l2, l3, .val (.int x), l5, l6] (.int x :: st) h := zx_go rfl rfl
theorem zs_12_54 : zrun zP sv C 12 54 [l0, l1, l2, l3, l4, l5, l6] (.int x :: .ref a :: st) h = zael (h.1 a) 27 x (fun v => zrun zP sv C 12 55 [l0, l1, l2, l3, l4, l5, l6] (v :: st) h) := zx_ald rfl rfl
theorem zs_12_55 : zrun zP sv C 12 55 [l0, l1, l2, l3, l4, l5, l6] (.int y :: .int x :: .ref a :: st) h = zaset (h.1 a) 24 x (.int y) (fun c => zrun zP sv C 12 56 [l0, l1, l2, l3, l4, l5, l6] st (zup h a c)) := zx_ast rfl rfl
theorem zs_12_56 : zrun zP sv C 12 56 [l0, l1, .val (.ref a), l3, l4, l5, l6] st h = zrun zP sv C 12 57 [l0, l1, .val (.ref a), l3, l4, l5, l6] (.ref a :: st) h := zx_go rfl rfl
theorem zs_12_56n : zrun zP sv C 12 56 [l0, l1, .val .null, l3, l4, l5, l6] st h = zrun zP sv C 12 57 [l0, l1, .val .null, l3, l4, l5, l6] (.null :: st) h := zx_go rfl rfl
theorem zs_12_57 : zrun zP sv C 12 57 [l0, l1, l2, l3, l4, .val (.int x), l6] st h = zrun zP sv C 12 60 [l0, l1, l2, l3, l4, .val (.int (x + (-1))), l6] st h := zx_ii rfl rfl rfl rfl rfl
theorem zs_12_60 : zrun zP sv C 12 60 [l0, l1, l2, l3, l4, .val (.int x), l6] st h = zrun zP sv C 12 62 [l0, l1, l2, l3, l4, .val (.int x), l6] (.int x :: st) h := zx_go rfl rfl
theorem zs_12_62 : zrun zP sv C 12 62 [l0, l1, l2, l3, l4, l5, l6] st h = zrun zP sv C 12 65 [l0, l1, l2, l3, l4, l5, l6] (sv 2 :: st) h := zx_go rfl rfl
theorem zs_12_65 : zrun zP sv C 12 65 [l0, l1, l2, l3, .val (.int x), l5, l6] st h = zrun zP sv C 12 67 [l0, l1, l2, l3, .val (.int x), l5, l6] (.int x :: st) h := zx_go rfl rfl
theorem zs_12_67 : zrun zP sv C 12 67 [l0, l1, l2, l3, l4, l5, l6] (.int x :: .ref a :: st) h = zael (h.1 a) 27 x (fun v => zrun zP sv C 12 68 [l0, l1, l2, l3, l4, l5, l6] (v :: st) h) := zx_ald rfl rfl
theorem zs_12_68 : zrun zP sv C 12 68 [l0, l1, l2, l3, l4, l5, l6] (.int y :: .int x :: .ref a :: st) h = zaset (h.1 a) 24 x (.int y) (fun c => zrun zP sv C 12 69 [l0, l1, l2, l3, l4, l5, l6] st (zup h a c)) := zx_ast rfl rfl
theorem zs_12_69 : zrun zP sv C 12 69 [l0, l1, l2, l3, l4, l5, l6] st h = zrun zP sv C 12 22 [l0, l1, l2, l3, l4, l5, l6] st h := zx_go rfl rfl
theorem zs_12_72 : zrun zP sv C 12 72 [l0, l1, .val (.ref a), l3, l4, l5, l6] st h = zrun zP sv C 12 73 [l0, l1, .val (.ref a), l3, l4, l5, l6] (.ref a :: st) h := zx_go rfl rfl
theorem zs_12_72n : zrun zP sv C 12 72 [l0, l1, .val .null, l3, l4, l5, l6] st h = zrun zP sv C 12 73 [l0, l1, .val .null, l3, l4, l5, l6] (.null :: st) h := zx_go rfl rfl
theorem zs_12_73 : zrun zP sv C 12 73 [l0, l1, l2, l3, l4, .val (.int x), l6] st h = zrun zP sv C 12 76 [l0, l1, l2, l3, l4, .val (.int (x + (-1))), l6] st h := zx_ii rfl rfl rfl rfl rfl
theorem zs_12_76 : zrun zP sv C 12 76 [l0, l1, l2, l3, l4, .val (.int x), l6] st h = zrun zP sv C 12 78 [l0, l1, l2, l3, l4, .val (.int x), l6] (.int x :: st) h := zx_go rfl rfl
theorem zs_12_78 : zrun zP sv C 12 78 [l0, l1, l2, l3, l4, l5, l6] st h = zrun zP sv C 12 81 [l0, l1, l2, l3, l4, l5, l6] (sv 1 :: st) h := zx_go rfl rfl
theorem zs_12_81 : zrun zP sv C 12 81 [.val (.int x), l1, l2, l3, l4, l5, l6] st h = zrun zP sv C 12 82 [.val (.int x), l1, l2, l3, l4, l5, l6] (.int x :: st) h := zx_go rfl rfl
theorem zs_12_82 : zrun zP sv C 12 82 [l0, l1, l2, l3, l4, l5, l6] (.int x :: st) h = zrun zP sv C 12 83 [l0, l1, l2, l3, l4, l5, l6] (.int (-x) :: st) h := zx_go rfl rfl
theorem zs_12_83 : zrun zP sv C 12 83 [l0, l1, l2, l3, l4, l5, l6] (.int x :: .ref a :: st) h = zael (h.1 a) 27 x (fun v => zrun zP sv C 12 84 [l0, l1, l2, l3, l4, l5, l6] (v :: st) h) := zx_ald rfl rfl
theorem zs_12_84 : zrun zP sv C 12 84 [l0, l1, l2, l3, l4, l5, l6] (.int y :: .int x :: .ref a :: st) h = zaset (h.1 a) 24 x (.int y) (fun c => zrun zP sv C 12 85 [l0, l1, l2, l3, l4, l5, l6] st (zup h a c)) := zx_ast rfl rfl
theorem zs_12_85 : zrun zP sv C 12 85 [.val (.int x), l1, l2, l3, l4, l5, l6] st h = zrun zP sv C 12 86 [.val (.int x), l1, l2, l3, l4, l5, l6] (.int x :: st) h := zx_go rfl rfl
theorem zs_12_86 : zrun zP sv C 12 86 [l0, l1, l2, l3, l4, l5, l6] st h = zrun zP sv C 12 88 [l0, l1, l2, l3, l4, l5, l6] (.int (-9) :: st) h := zx_go rfl rfl
theorem zs_12_88 : zrun zP sv C 12 88 [l0, l1, l2, l3, l4, l5, l6] (.int y :: .int x :: st) h = if x < y then zrun zP sv C 12 91 [l0, l1, l2, l3, l4, l5, l6] st h else zrun zP sv C 12 104 [l0, l1, l2, l3, l4, l5, l6] st h := (zx_ic rfl rfl).trans zc3_if
theorem zs_12_91 : zrun zP sv C 12 91 [l0, l1, .val (.ref a), l3, l4, l5, l6] st h = zrun zP sv C 12 92 [l0, l1, .val (.ref a), l3, l4, l5, l6] (.ref a :: st) h := zx_go rfl rfl
theorem zs_12_91n : zrun zP sv C 12 91 [l0, l1, .val .null, l3, l4, l5, l6] st h = zrun zP sv C 12 92 [l0, l1, .val .null, l3, l4, l5, l6] (.null :: st) h := zx_go rfl rfl
theorem zs_12_92 : zrun zP sv C 12 92 [l0, l1, l2, l3, l4, .val (.int x), l6] st h = zrun zP sv C 12 95 [l0, l1, l2, l3, l4, .val (.int (x + (-1))), l6] st h := zx_ii rfl rfl rfl rfl rfl
theorem zs_12_95 : zrun zP sv C 12 95 [l0, l1, l2, l3, l4, .val (.int x), l6] st h = zrun zP sv C 12 97 [l0, l1, l2, l3, l4, .val (.int x), l6] (.int x :: st) h := zx_go rfl rfl
theorem zs_12_97 : zrun zP sv C 12 97 [l0, l1, l2, l3, l4, l5, l6] st h = zrun zP sv C 12 100 [l0, l1, l2, l3, l4, l5, l6] (sv 2 :: st) h := zx_go rfl rfl
theorem zs_12_100 : zrun zP sv C 12 100 [.val (.int x), l1, l2, l3, l4, l5, l6] st h = zrun zP sv C 12 101 [.val (.int x), l1, l2, l3, l4, l5, l6] (.int x :: st) h := zx_go rfl rfl
theorem zs_12_101 : zrun zP sv C 12 101 [l0, l1, l2, l3, l4, l5, l6] (.int x :: st) h = zrun zP sv C 12 102 [l0, l1, l2, l3, l4, l5, l6] (.int (-x) :: st) h := zx_go rfl rfl
theorem zs_12_102 : zrun zP sv C 12 102 [l0, l1, l2, l3, l4, l5, l6] (.int x :: .ref a :: st) h = zael (h.1 a) 27 x (fun v => zrun zP sv C 12 103 [l0, l1, l2, l3, l4, l5, l6] (v :: st) h) := zx_ald rfl rfl
theorem zs_12_103 : zrun zP sv C 12 103 [l0, l1, l2, l3, l4, l5, l6] (.int y :: .int x :: .ref a :: st) h = zaset (h.1 a) 24 x (.int y) (fun c => zrun zP sv C 12 104 [l0, l1, l2, l3, l4, l5, l6] st (zup h a c)) := zx_ast rfl rfl
theorem zs_12_104 : zrun zP sv C 12 104 [l0, l1, l2, l3, l4, l5, .val (.int x)] st h = zrun zP sv C 12 106 [l0, l1, l2, l3, l4, l5, .val (.int x)] (.int x :: st) h := zx_go rfl rfl
theorem zs_12_106 : zrun zP sv C 12 106 [l0, l1, l2, l3, l4, l5, l6] (.int x :: st) h = if x = 0 then zrun zP sv C 12 118 [l0, l1, l2, l3, l4, l5, l6] st h else zrun zP sv C 12 109 [l0, l1, l2, l3, l4, l5, l6] st h := (zx_if rfl rfl).trans zc0_if
theorem zs_12_109 : zrun zP sv C 12 109 [l0, l1, .val (.ref a), l3, l4, l5, l6] st h = zrun zP sv C 12 110 [l0, l1, .val (.ref a), l3, l4, l5, l6] (.ref a :: st) h := zx_go rfl rfl
theorem zs_12_109n : zrun zP sv C 12 109 [l0, l1, .val .null, l3, l4, l5, l6] st h = zrun zP sv C 12 110 [l0, l1, .val .null, l3, l4, l5, l6] (.null :: st) h := zx_go rfl rfl
theorem zs_12_110 : zrun zP sv C 12 110 [l0, l1, l2, l3, l4, .val (.int x), l6] st h = zrun zP sv C 12 113 [l0, l1, l2, l3, l4, .val (.int (x + (-1))), l6] st h := zx_ii rfl rfl rfl rfl rfl
theorem zs_12_113 : zrun zP sv C 12 113 [l0, l1, l2, l3, l4, .val (.int x), l6] st h = zrun zP sv C 12 115 [l0, l1, l2, l3, l4, .val (.int x), l6] (.int x :: st) h := zx_go rfl rfl
theorem zs_12_115 : zrun zP sv C 12 115 [l0, l1, l2, l3, l4, l5, l6] st h = zrun zP sv C 12 117 [l0, l1, l2, l3, l4, l5, l6] (.int (nI 45) :: st) h := zx_go rfl rfl
theorem zs_12_117 : zrun zP sv C 12 117 [l0, l1, l2, l3, l4, l5, l6] (.int y :: .int x :: .ref a :: st) h = zaset (h.1 a) 24 x (.int y) (fun c => zrun zP sv C 12 118 [l0, l1, l2, l3, l4, l5, l6] st (zup h a c)) := zx_ast rfl rfl
theorem zs_12_118 : zrun zP sv C 12 118 [l0, l1, l2, l3, l4, .val (.int x), l6] st h = zrun zP sv C 12 120 [l0, l1, l2, l3, l4, .val (.int x), l6] (.int x :: st) h := zx_go rfl rfl
theorem zs_12_120 : zrun zP sv C 12 120 [l0, l1, l2, l3, l4, l5, l6] [.int x] h = some (.inl (some (.int x)), h) := zx_end rfl rfl
theorem zs_13_0 : zrun zP sv C 13 0 [.val (.ref a)] st h = zrun zP sv C 13 1 [.val (.ref a)] (.ref a :: st) h := zx_go rfl rfl
theorem zs_13_0n : zrun zP sv C 13 0 [.val .null] st h = zrun zP sv C 13 1 [.val .null] (.null :: st) h := zx_go rfl rfl
theorem zs_13_1 : zrun zP sv C 13 1 [l0] [.ref b] h = zrc (h.1 b) 2 (zbk (C 14 [.ref b] h) (fun v h' => zrun zP sv C 13 4 [l0] (v.toList ++ []) h') (fun E h' => some (.inr E, h'))) := zx_cv (x0 := 2) rfl rfl rfl rfl rfl ⟨Nat.le_of_ble_eq_true rfl, rfl⟩ (fun _ _ => rfl)
theorem zs_13_4 : zrun zP sv C 13 4 [l0] [.int x] h = some (.inl (some (.int x)), h) := zx_end rfl rfl
theorem zs_14_0 : zrun zP sv C 14 0 [.val (.ref a)] st h = zrun zP sv C 14 1 [.val (.ref a)] (.ref a :: st) h := zx_go rfl rfl
theorem zs_14_0n : zrun zP sv C 14 0 [.val .null] st h = zrun zP sv C 14 1 [.val .null] (.null :: st) h := zx_go rfl rfl
theorem zs_14_1 : zrun zP sv C 14 1 [l0] (.ref a :: st) h = zfld (h.1 a) 2 3 (fun v => zrun zP sv C 14 4 [l0] (v :: st) h) := zx_getf rfl rfl
theorem zs_14_4 : zrun zP sv C 14 4 [l0] [.int x] h = some (.inl (some (.int x)), h) := zx_end rfl rfl
theorem zs_15_0 : zrun zP sv C 15 0 [.val (.ref a), l1] st h = zrun zP sv C 15 1 [.val (.ref a), l1] (.ref a :: st) h := zx_go rfl rfl
theorem zs_15_0n : zrun zP sv C 15 0 [.val .null, l1] st h = zrun zP sv C 15 1 [.val .null, l1] (.null :: st) h := zx_go rfl rfl
theorem zs_15_1 : zrun zP sv C 15 1 [l0, .val (.int x)] st h = zrun zP sv C 15 2 [l0, .val (.int x)] (.int x :: st) h := zx_go rfl rfl
theorem zs_15_2 : zrun zP sv C 15 2 [l0, l1] [v1, .ref b] h = zrc (h.1 b) 2 (zbk (C 16 [.ref b, v1] h) (fun v h' => zrun zP sv C 15 5 [l0, l1] (v.toList ++ []) h') (fun E h' => some (.inr E, h'))) := zx_cv (x0 := 2) rfl rfl rfl rfl rfl ⟨Nat.le_of_ble_eq_true rfl, rfl⟩ (fun _ _ => rfl)
theorem zs_15_5 : zrun zP sv C 15 5 [l0, l1] (.ref a :: st) h = zrun zP sv C 15 6 [l0, l1] st h := zx_go rfl rfl
theorem zs_15_5n : zrun zP sv C 15 5 [l0, l1] (.null :: st) h = zrun zP sv C 15 6 [l0, l1] st h := zx_go rfl rfl
theorem zs_15_6 : zrun zP sv C 15 6 [.val (.ref a), l1] st h = zrun zP sv C 15 7 [.val (.ref a), l1] (.ref a :: st) h := zx_go rfl rfl
theorem zs_15_6n : zrun zP sv C 15 6 [.val .null, l1] st h = zrun zP sv C 15 7 [.val .null, l1] (.null :: st) h := zx_go rfl rfl
theorem zs_15_7 : zrun zP sv C 15 7 [l0, l1] [.ref a] h = some (.inl (some (.ref a)), h) := zx_end rfl rfl
theorem zs_15_7n : zrun zP sv C 15 7 [l0, l1] [.null] h = some (.inl (some (.null)), h) := zx_end rfl rfl
theorem zs_16_0 : zrun zP sv C 16 0 [.val (.ref a), l1] st h = zrun zP sv C 16 1 [.val (.ref a), l1] (.ref a :: st) h := zx_go rfl rfl
theorem zs_16_0n : zrun zP sv C 16 0 [.val .null, l1] st h = zrun zP sv C 16 1 [.val .null, l1] (.null :: st) h := zx_go rfl rfl
theorem zs_16_1 : zrun zP sv C 16 1 [.val (.ref a), l1] st h = zrun zP sv C 16 2 [.val (.ref a), l1] (.ref a :: st) h := zx_go rfl rfl
theorem zs_16_1n : zrun zP sv C 16 1 [.val .null, l1] st h = zrun zP sv C 16 2 [.val .null, l1] (.null :: st) h := zx_go rfl rfl
theorem zs_16_2 : zrun zP sv C 16 2 [l0, l1] (.ref a :: st) h = zfld (h.1 a) 2 3 (fun v => zrun zP sv C 16 5 [l0, l1] (v :: st) h) := zx_getf rfl rfl
theorem zs_16_5 : zrun zP sv C 16 5 [l0, l1] st h = zrun zP sv C 16 6 [l0, l1] (.int (nI 1) :: st) h := zx_go rfl rfl
theorem zs_16_6 : zrun zP sv C 16 6 [l0, l1] (.int y :: .int x :: st) h = zrun zP sv C 16 7 [l0, l1] (.int (x + y) :: st) h := zx_go rfl rfl
theorem zs_16_7 : zrun zP sv C 16 7 [l0, l1] [v1, .ref b] h = zrc (h.1 b) 2 (zbk (C 4 [.ref b, v1] h) (fun v h' => zrun zP sv C 16 10 [l0, l1] (v.toList ++ []) h') (fun E h' => some (.inr E, h'))) := zx_cv (x0 := 2) rfl rfl rfl rfl rfl ⟨Nat.le_of_ble_eq_true rfl, rfl⟩ (fun _ _ => rfl)
theorem zs_16_10 : zrun zP sv C 16 10 [.val (.ref a), l1] st h = zrun zP sv C 16 11 [.val (.ref a), l1] (.ref a :: st) h := zx_go rfl rfl
theorem zs_16_10n : zrun zP sv C 16 10 [.val .null, l1] st h = zrun zP sv C 16 11 [.val .null, l1] (.null :: st) h := zx_go rfl rfl
theorem zs_16_11 : zrun zP sv C 16 11 [l0, l1] [.ref b] h = zrc (h.1 b) 2 (zbk (C 8 [.ref b] h) (fun v h' => zrun zP sv C 16 14 [l0, l1] (v.toList ++ []) h') (fun E h' => some (.inr E, h'))) := zx_cv (x0 := 2) rfl rfl rfl rfl rfl ⟨Nat.le_of_ble_eq_true rfl, rfl⟩ (fun _ _ => rfl)
theorem zs_16_14 : zrun zP sv C 16 14 [l0, l1] (.int x :: st) h = if x = 0 then zrun zP sv C 16 45 [l0, l1] st h else zrun zP sv C 16 17 [l0, l1] st h := (zx_if rfl rfl).trans zc0_if
theorem zs_16_17 : zrun zP sv C 16 17 [l0, .val (.int x)] st h = zrun zP sv C 16 18 [l0, .val (.int x)] (.int x :: st) h := zx_go rfl rfl
theorem zs_16_18 : zrun zP sv C 16 18 [l0, l1] [v0] h = zbk (C 17 [v0] h) (fun v h' => zrun zP sv C 16 21 [l0, l1] (v.toList ++ []) h') (fun E h' => some (.inr E, h')) := zx_cs rfl rfl rfl rfl ⟨Nat.le_of_ble_eq_true rfl, rfl⟩ (fun _ _ => rfl)
theorem zs_16_21 : zrun zP sv C 16 21 [l0, l1] (.int x :: st) h = if x = 0 then zrun zP sv C 16 45 [l0, l1] st h else zrun zP sv C 16 24 [l0, l1] st h := (zx_if rfl rfl).trans zc0_if
theorem zs_16_24 : zrun zP sv C 16 24 [.val (.ref a), l1] st h = zrun zP sv C 16 25 [.val (.ref a), l1] (.ref a :: st) h := zx_go rfl rfl
theorem zs_16_24n : zrun zP sv C 16 24 [.val .null, l1] st h = zrun zP sv C 16 25 [.val .null, l1] (.null :: st) h := zx_go rfl rfl
theorem zs_16_25 : zrun zP sv C 16 25 [l0, l1] (.ref a :: st) h = zfld (h.1 a) 2 0 (fun v => zrun zP sv C 16 28 [l0, l1] (v :: st) h) := zx_getf rfl rfl
theorem zs_16_28 : zrun zP sv C 16 28 [.val (.ref a), l1] st h = zrun zP sv C 16 29 [.val (.ref a), l1] (.ref a :: st) h := zx_go rfl rfl
theorem zs_16_28n : zrun zP sv C 16 28 [.val .null, l1] st h = zrun zP sv C 16 29 [.val .null, l1] (.null :: st) h := zx_go rfl rfl
theorem zs_16_29 : zrun zP sv C 16 29 [l0, l1] (.ref a :: st) h = zrun zP sv C 16 30 [l0, l1] (.ref a :: .ref a :: st) h := zx_go rfl rfl
theorem zs_16_30 : zrun zP sv C 16 30 [l0, l1] (.ref a :: st) h = zfld (h.1 a) 2 3 (fun v => zrun zP sv C 16 33 [l0, l1] (v :: st) h) := zx_getf rfl rfl
theorem zs_16_33 : zrun zP sv C 16 33 [l0, l1] (.int x :: .ref b :: st) h = zrun zP sv C 16 34 [l0, l1] (.int x :: .ref b :: .int x :: st) h := zx_go rfl rfl
theorem zs_16_34 : zrun zP sv C 16 34 [l0, l1] st h = zrun zP sv C 16 35 [l0, l1] (.int (nI 1) :: st) h := zx_go rfl rfl
theorem zs_16_35 : zrun zP sv C 16 35 [l0, l1] (.int y :: .int x :: st) h = zrun zP sv C 16 36 [l0, l1] (.int (x + y) :: st) h := zx_go rfl rfl
theorem zs_16_36 : zrun zP sv C 16 36 [l0, l1] (.int x :: .ref a :: st) h = zpfd (h.1 a) 2 3 0 (.int x) (fun c => zrun zP sv C 16 39 [l0, l1] st (zup h a c)) := zx_putf (x0 := 0) rfl rfl
theorem zs_16_39 : zrun zP sv C 16 39 [l0, .val (.int x)] st h = zrun zP sv C 16 40 [l0, .val (.int x)] (.int x :: st) h := zx_go rfl rfl
theorem zs_16_40 : zrun zP sv C 16 40 [l0, l1] (.int x :: st) h = zrun zP sv C 16 41 [l0, l1] (.int x.toInt8.toInt32 :: st) h := zx_go rfl rfl
theorem zs_16_41 : zrun zP sv C 16 41 [l0, l1] (.int y :: .int x :: .ref a :: st) h = zaset (h.1 a) 24 x (.int y) (fun c => zrun zP sv C 16 42 [l0, l1] st (zup h a c)) := zx_ast rfl rfl
theorem zs_16_42 : zrun zP sv C 16 42 [l0, l1] st h = zrun zP sv C 16 75 [l0, l1] st h := zx_go rfl rfl
theorem zs_16_45 : zrun zP sv C 16 45 [.val (.ref a), l1] st h = zrun zP sv C 16 46 [.val (.ref a), l1] (.ref a :: st) h := zx_go rfl rfl
theorem zs_16_45n : zrun zP sv C 16 45 [.val .null, l1] st h = zrun zP sv C 16 46 [.val .null, l1] (.null :: st) h := zx_go rfl rfl
theorem zs_16_46 : zrun zP sv C 16 46 [l0, l1] [.ref b] h = zrc (h.1 b) 2 (zbk (C 8 [.ref b] h) (fun v h' => zrun zP sv C 16 49 [l0, l1] (v.toList ++ []) h') (fun E h' => some (.inr E, h'))) := zx_cv (x0 := 2) rfl rfl rfl rfl rfl ⟨Nat.le_of_ble_eq_true rfl, rfl⟩ (fun _ _ => rfl)
theorem zs_16_49 : zrun zP sv C 16 49 [l0, l1] (.int x :: st) h = if x = 0 then zrun zP sv C 16 56 [l0, l1] st h else zrun zP sv C 16 52 [l0, l1] st h := (zx_if rfl rfl).trans zc0_if
theorem zs_16_52 : zrun zP sv C 16 52 [.val (.ref a), l1] st h = zrun zP sv C 16 53 [.val (.ref a), l1] (.ref a :: st) h := zx_go rfl rfl
theorem zs_16_52n : zrun zP sv C 16 52 [.val .null, l1] st h = zrun zP sv C 16 53 [.val .null, l1] (.null :: st) h := zx_go rfl rfl
theorem zs_16_56 : zrun zP sv C 16 56 [.val (.ref a), l1] st h = zrun zP sv C 16 57 [.val (.ref a), l1] (.ref a :: st) h := zx_go rfl rfl
theorem zs_16_56n : zrun zP sv C 16 56 [.val .null, l1] st h = zrun zP sv C 16 57 [.val .null, l1] (.null :: st) h := zx_go rfl rfl
theorem zs_16_57 : zrun zP sv C 16 57 [l0, l1] (.ref a :: st) h = zfld (h.1 a) 2 0 (fun v => zrun zP sv C 16 60 [l0, l1] (v :: st) h) := zx_getf rfl rfl
theorem zs_16_60 : zrun zP sv C 16 60 [.val (.ref a), l1] st h = zrun zP sv C 16 61 [.val (.ref a), l1] (.ref a :: st) h := zx_go rfl rfl
theorem zs_16_60n : zrun zP sv C 16 60 [.val .null, l1] st h = zrun zP sv C 16 61 [.val .null, l1] (.null :: st) h := zx_go rfl rfl
theorem zs_16_61 : zrun zP sv C 16 61 [l0, l1] (.ref a :: st) h = zrun zP sv C 16 62 [l0, l1] (.ref a :: .ref a :: st) h := zx_go rfl rfl
theorem zs_16_62 : zrun zP sv C 16 62 [l0, l1] (.ref a :: st) h = zfld (h.1 a) 2 3 (fun v => zrun zP sv C 16 65 [l0, l1] (v :: st) h) := zx_getf rfl rfl
theorem zs_16_65 : zrun zP sv C 16 65 [l0, l1] (.int x :: .ref b :: st) h = zrun zP sv C 16 66 [l0, l1] (.int x :: .ref b :: .int x :: st) h := zx_go rfl rfl
theorem zs_16_66 : zrun zP sv C 16 66 [l0, l1] st h = zrun zP sv C 16 67 [l0, l1] (.int (nI 1) :: st) h := zx_go rfl rfl
theorem zs_16_67 : zrun zP sv C 16 67 [l0, l1] (.int y :: .int x :: st) h = zrun zP sv C 16 68 [l0, l1] (.int (x + y) :: st) h := zx_go rfl rfl
theorem zs_16_68 : zrun zP sv C 16 68 [l0, l1] (.int x :: .ref a :: st) h = zpfd (h.1 a) 2 3 0 (.int x) (fun c => zrun zP sv C 16 71 [l0, l1] st (zup h a c)) := zx_putf (x0 := 0) rfl rfl
theorem zs_16_71 : zrun zP sv C 16 71 [l0, .val (.int x)] st h = zrun zP sv C 16 72 [l0, .val (.int x)] (.int x :: st) h := zx_go rfl rfl
theorem zs_16_75 : zrun zP sv C 16 75 [.val (.ref a), l1] st h = zrun zP sv C 16 76 [.val (.ref a), l1] (.ref a :: st) h := zx_go rfl rfl
theorem zs_16_75n : zrun zP sv C 16 75 [.val .null, l1] st h = zrun zP sv C 16 76 [.val .null, l1] (.null :: st) h := zx_go rfl rfl
theorem zs_16_76 : zrun zP sv C 16 76 [l0, l1] [.ref a] h = some (.inl (some (.ref a)), h) := zx_end rfl rfl
theorem zs_16_76n : zrun zP sv C 16 76 [l0, l1] [.null] h = some (.inl (some (.null)), h) := zx_end rfl rfl
theorem zs_17_0 : zrun zP sv C 17 0 [.val (.int x)] st h = zrun zP sv C 17 1 [.val (.int x)] (.int x :: st) h := zx_go rfl rfl
theorem zs_17_1 : zrun zP sv C 17 1 [l0] st h = zrun zP sv C 17 4 [l0] (.int (nI 255) :: st) h := zx_go rfl rfl
theorem zs_17_4 : zrun zP sv C 17 4 [l0] (.int y :: .int x :: st) h = if y < x then zrun zP sv C 17 11 [l0] st h else zrun zP sv C 17 7 [l0] st h := (zx_ic rfl rfl).trans zc4_if
theorem zs_17_7 : zrun zP sv C 17 7 [l0] st h = zrun zP sv C 17 8 [l0] (.int (nI 1) :: st) h := zx_go rfl rfl
theorem zs_17_8 : zrun zP sv C 17 8 [l0] st h = zrun zP sv C 17 12 [l0] st h := zx_go rfl rfl
theorem zs_17_11 : zrun zP sv C 17 11 [l0] st h = zrun zP sv C 17 12 [l0] (.int 0 :: st) h := zx_go rfl rfl
theorem zs_17_12 : zrun zP sv C 17 12 [l0] [.int x] h = zgd (zty 5 (.int x)) (some (.inl (some (.int x)), h)) := zx_rt rfl
theorem zs_18_0 : zrun zP sv C 18 0 [.val (.int x), l1] st h = zrun zP sv C 18 1 [.val (.int x), l1] (.int x :: st) h := zx_go rfl rfl
theorem zs_18_1 : zrun zP sv C 18 1 [l0, .val (.int x)] st h = zrun zP sv C 18 2 [l0, .val (.int x)] (.int x :: st) h := zx_go rfl rfl
theorem zs_18_2 : zrun zP sv C 18 2 [l0, l1] st h = zrun zP sv C 18 5 [l0, l1] (sv 3 :: st) h := zx_go rfl rfl
theorem zs_18_5 : zrun zP sv C 18 5 [l0, l1] [v2, v1, v0] h = zbk (C 19 [v0, v1, v2] h) (fun v h' => zrun zP sv C 18 8 [l0, l1] (v.toList ++ []) h') (fun E h' => some (.inr E, h')) := zx_cs rfl rfl rfl rfl ⟨Nat.le_of_ble_eq_true rfl, rfl⟩ (fun _ _ => rfl)
theorem zs_18_8 : zrun zP sv C 18 8 [l0, l1] (.int x :: st) h = zrun zP sv C 18 9 [l0, l1] st h := zx_go rfl rfl
theorem zs_18_9 : zrun zP sv C 18 9 [l0, l1] [] h = some (.inl none, h) := zx_end rfl rfl
theorem zs_19_0 : zrun zP sv C 19 0 [.val (.int x), l1, l2] st h = zrun zP sv C 19 1 [.val (.int x), l1, l2] (.int x :: st) h := zx_go rfl rfl
theorem zs_19_1 : zrun zP sv C 19 1 [l0, l1, l2] (.int x :: st) h = if x < 0 then zrun zP sv C 19 9 [l0, l1, l2] st h else zrun zP sv C 19 4 [l0, l1, l2] st h := (zx_if rfl rfl).trans zc2_if
theorem zs_19_4 : zrun zP sv C 19 4 [.val (.int x), l1, l2] st h = zrun zP sv C 19 5 [.val (.int x), l1, l2] (.int x :: st) h := zx_go rfl rfl
theorem zs_19_5 : zrun zP sv C 19 5 [l0, .val (.int x), l2] st h = zrun zP sv C 19 6 [l0, .val (.int x), l2] (.int x :: st) h := zx_go rfl rfl
theorem zs_19_6 : zrun zP sv C 19 6 [l0, l1, l2] (.int y :: .int x :: st) h = if x < y then zrun zP sv C 19 16 [l0, l1, l2] st h else zrun zP sv C 19 9 [l0, l1, l2] st h := (zx_ic rfl rfl).trans zc2_if
theorem zs_19_9 : zrun zP sv C 19 9 [l0, l1, .val (.ref a)] st h = zrun zP sv C 19 10 [l0, l1, .val (.ref a)] (.ref a :: st) h := zx_go rfl rfl
theorem zs_19_9n : zrun zP sv C 19 9 [l0, l1, .val .null] st h = zrun zP sv C 19 10 [l0, l1, .val .null] (.null :: st) h := zx_go rfl rfl
theorem zs_19_10 : zrun zP sv C 19 10 [.val (.int x), l1, l2] st h = zrun zP sv C 19 11 [.val (.int x), l1, l2] (.int x :: st) h := zx_go rfl rfl
theorem zs_19_11 : zrun zP sv C 19 11 [l0, .val (.int x), l2] st h = zrun zP sv C 19 12 [l0, .val (.int x), l2] (.int x :: st) h := zx_go rfl rfl
theorem zs_19_16 : zrun zP sv C 19 16 [.val (.int x), l1, l2] st h = zrun zP sv C 19 17 [.val (.int x), l1, l2] (.int x :: st) h := zx_go rfl rfl
theorem zs_19_17 : zrun zP sv C 19 17 [l0, l1, l2] [.int x] h = some (.inl (some (.int x)), h) := zx_end rfl rfl
theorem zs_20_0 : zrun zP sv C 20 0 [.val (.ref a), l1] st h = zrun zP sv C 20 1 [.val (.ref a), l1] (.ref a :: st) h := zx_go rfl rfl
theorem zs_20_0n : zrun zP sv C 20 0 [.val .null, l1] st h = zrun zP sv C 20 1 [.val .null, l1] (.null :: st) h := zx_go rfl rfl
theorem zs_20_1 : zrun zP sv C 20 1 [l0, .val (.int x)] st h = zrun zP sv C 20 2 [l0, .val (.int x)] (.int x :: st) h := zx_go rfl rfl
theorem zs_20_2 : zrun zP sv C 20 2 [l0, l1] [v1, .ref b] h = zrc (h.1 b) 2 (zbk (C 21 [.ref b, v1] h) (fun v h' => zrun zP sv C 20 5 [l0, l1] (v.toList ++ []) h') (fun E h' => some (.inr E, h'))) := zx_cv (x0 := 2) rfl rfl rfl rfl rfl ⟨Nat.le_of_ble_eq_true rfl, rfl⟩ (fun _ _ => rfl)
theorem zs_20_5 : zrun zP sv C 20 5 [l0, l1] [.int x] h = zgd (zty 7 (.int x)) (some (.inl (some (.int x)), h)) := zx_rt rfl
theorem zs_21_0 : zrun zP sv C 21 0 [.val (.ref a), l1, l2, l3, l4] st h = zrun zP sv C 21 1 [.val (.ref a), l1, l2, l3, l4] (.ref a :: st) h := zx_go rfl rfl
theorem zs_21_0n : zrun zP sv C 21 0 [.val .null, l1, l2, l3, l4] st h = zrun zP sv C 21 1 [.val .null, l1, l2, l3, l4] (.null :: st) h := zx_go rfl rfl
theorem zs_21_1 : zrun zP sv C 21 1 [l0, l1, l2, l3, l4] (.ref a :: st) h = zfld (h.1 a) 2 1 (fun v => zrun zP sv C 21 4 [l0, l1, l2, l3, l4] (v :: st) h) := zx_getf rfl rfl
theorem zs_21_4 (hs : znw l2 = true) : zrun zP sv C 21 4 [l0, l1, l2, l3, l4] (.int x :: st) h = zrun zP sv C 21 5 [l0, l1, .val (.int x), l3, l4] st h := zx_st hs rfl rfl rfl rfl rfl rfl
theorem zs_21_5 : zrun zP sv C 21 5 [.val (.ref a), l1, l2, l3, l4] st h = zrun zP sv C 21 6 [.val (.ref a), l1, l2, l3, l4] (.ref a :: st) h := zx_go rfl rfl
theorem zs_21_5n : zrun zP sv C 21 5 [.val .null, l1, l2, l3, l4] st h = zrun zP sv C 21 6 [.val .null, l1, l2, l3, l4] (.null :: st) h := zx_go rfl rfl
theorem zs_21_6 : zrun zP sv C 21 6 [l0, l1, l2, l3, l4] (.ref a :: st) h = zfld (h.1 a) 2 0 (fun v => zrun zP sv C 21 9 [l0, l1, l2, l3, l4] (v :: st) h) := zx_getf rfl rfl
theorem zs_21_9 (hs : znw l3 = true) : zrun zP sv C 21 9 [l0, l1, l2, l3, l4] (.ref a :: st) h = zrun zP sv C 21 10 [l0, l1, l2, .val (.ref a), l4] st h := zx_st hs rfl rfl rfl rfl rfl rfl
theorem zs_21_9n (hs : znw l3 = true) : zrun zP sv C 21 9 [l0, l1, l2, l3, l4] (.null :: st) h = zrun zP sv C 21 10 [l0, l1, l2, .val (.null), l4] st h := zx_st hs rfl rfl rfl rfl rfl rfl
theorem zs_21_10 : zrun zP sv C 21 10 [.val (.ref a), l1, l2, l3, l4] st h = zrun zP sv C 21 11 [.val (.ref a), l1, l2, l3, l4] (.ref a :: st) h := zx_go rfl rfl
theorem zs_21_10n : zrun zP sv C 21 10 [.val .null, l1, l2, l3, l4] st h = zrun zP sv C 21 11 [.val .null, l1, l2, l3, l4] (.null :: st) h := zx_go rfl rfl
theorem zs_21_11 : zrun zP sv C 21 11 [l0, l1, l2, l3, l4] (.ref a :: st) h = zfld (h.1 a) 2 3 (fun v => zrun zP sv C 21 14 [l0, l1, l2, l3, l4] (v :: st) h) := zx_getf rfl rfl
theorem zs_21_14 : zrun zP sv C 21 14 [l0, l1, l2, .val (.ref a), l4] st h = zrun zP sv C 21 15 [l0, l1, l2, .val (.ref a), l4] (.ref a :: st) h := zx_go rfl rfl
theorem zs_21_14n : zrun zP sv C 21 14 [l0, l1, l2, .val .null, l4] st h = zrun zP sv C 21 15 [l0, l1, l2, .val .null, l4] (.null :: st) h := zx_go rfl rfl
theorem zs_21_15 : zrun zP sv C 21 15 [l0, l1, l2, l3, l4] (.ref a :: st) h = zaln (h.1 a) (fun v => zrun zP sv C 21 16 [l0, l1, l2, l3, l4] (.int v :: st) h) := zx_aln rfl rfl
theorem zs_21_16 : zrun zP sv C 21 16 [l0, l1, .val (.int x), l3, l4] st h = zrun zP sv C 21 17 [l0, l1, .val (.int x), l3, l4] (.int x :: st) h := zx_go rfl rfl
theorem zs_21_17 : zrun zP sv C 21 17 [l0, l1, l2, l3, l4] (.int y :: .int x :: st) h = zrun zP sv C 21 18 [l0, l1, l2, l3, l4] (.int (x >>> (y &&& 31)) :: st) h := zx_go rfl rfl
theorem zs_21_18 : zrun zP sv C 21 18 [l0, l1, l2, l3, l4] [.int y, .int x] h = zrun zP sv C 21 21 [l0, l1, l2, l3, l4] [.int (if y < x then y else x)] h := zx_go rfl rfl
theorem zs_21_21 (hs : znw l4 = true) : zrun zP sv C 21 21 [l0, l1, l2, l3, l4] (.int x :: st) h = zrun zP sv C 21 23 [l0, l1, l2, l3, .val (.int x)] st h := zx_st hs rfl rfl rfl rfl rfl rfl
theorem zs_21_23 : zrun zP sv C 21 23 [l0, .val (.int x), l2, l3, l4] st h = zrun zP sv C 21 24 [l0, .val (.int x), l2, l3, l4] (.int x :: st) h := zx_go rfl rfl
theorem zs_21_24 : zrun zP sv C 21 24 [l0, l1, l2, l3, .val (.int x)] st h = zrun zP sv C 21 26 [l0, l1, l2, l3, .val (.int x)] (.int x :: st) h := zx_go rfl rfl
theorem zs_21_26 : zrun zP sv C 21 26 [l0, l1, l2, l3, l4] [v1, v0] h = zbk (C 18 [v0, v1] h) (fun v h' => zrun zP sv C 21 29 [l0, l1, l2, l3, l4] (v.toList ++ []) h') (fun E h' => some (.inr E, h')) := zx_cs rfl rfl rfl rfl ⟨Nat.le_of_ble_eq_true rfl, rfl⟩ (fun _ _ => rfl)
theorem zs_21_29 : zrun zP sv C 21 29 [l0, l1, .val (.int x), l3, l4] st h = zrun zP sv C 21 30 [l0, l1, .val (.int x), l3, l4] (.int x :: st) h := zx_go rfl rfl
theorem zs_21_30 : zrun zP sv C 21 30 [l0, l1, l2, l3, l4] (.int x :: st) h = if x = 0 then zrun zP sv C 21 33 [l0, l1, l2, l3, l4] st h else zrun zP sv C 21 42 [l0, l1, l2, l3, l4] st h := (zx_if rfl rfl).trans zc1_if
theorem zs_21_33 : zrun zP sv C 21 33 [l0, l1, l2, .val (.ref a), l4] st h = zrun zP sv C 21 34 [l0, l1, l2, .val (.ref a), l4] (.ref a :: st) h := zx_go rfl rfl
theorem zs_21_33n : zrun zP sv C 21 33 [l0, l1, l2, .val .null, l4] st h = zrun zP sv C 21 34 [l0, l1, l2, .val .null, l4] (.null :: st) h := zx_go rfl rfl
theorem zs_21_34 : zrun zP sv C 21 34 [l0, .val (.int x), l2, l3, l4] st h = zrun zP sv C 21 35 [l0, .val (.int x), l2, l3, l4] (.int x :: st) h := zx_go rfl rfl
theorem zs_21_35 : zrun zP sv C 21 35 [l0, l1, l2, l3, l4] (.int x :: .ref a :: st) h = zael (h.1 a) 24 x (fun v => zrun zP sv C 21 36 [l0, l1, l2, l3, l4] (v :: st) h) := zx_ald rfl rfl
theorem zs_21_36 : zrun zP sv C 21 36 [l0, l1, l2, l3, l4] st h = zrun zP sv C 21 39 [l0, l1, l2, l3, l4] (.int (nI 255) :: st) h := zx_go rfl rfl
theorem zs_21_39 : zrun zP sv C 21 39 [l0, l1, l2, l3, l4] (.int y :: .int x :: st) h = zrun zP sv C 21 40 [l0, l1, l2, l3, l4] (.int (x &&& y) :: st) h := zx_go rfl rfl
theorem zs_21_40 : zrun zP sv C 21 40 [l0, l1, l2, l3, l4] (.int x :: st) h = zrun zP sv C 21 41 [l0, l1, l2, l3, l4] (.int (x.toUInt32 % 65536).toInt32 :: st) h := zx_go rfl rfl
theorem zs_21_41 : zrun zP sv C 21 41 [l0, l1, l2, l3, l4] [.int x] h = zgd (zty 7 (.int x)) (some (.inl (some (.int x)), h)) := zx_rt rfl
theorem zs_21_42 : zrun zP sv C 21 42 [l0, l1, l2, .val (.ref a), l4] st h = zrun zP sv C 21 43 [l0, l1, l2, .val (.ref a), l4] (.ref a :: st) h := zx_go rfl rfl
theorem zs_21_42n : zrun zP sv C 21 42 [l0, l1, l2, .val .null, l4] st h = zrun zP sv C 21 43 [l0, l1, l2, .val .null, l4] (.null :: st) h := zx_go rfl rfl
theorem zs_21_43 : zrun zP sv C 21 43 [l0, .val (.int x), l2, l3, l4] st h = zrun zP sv C 21 44 [l0, .val (.int x), l2, l3, l4] (.int x :: st) h := zx_go rfl rfl
theorem zs_22_0 : zrun zP sv C 22 0 [.val (.int x)] st h = zrun zP sv C 22 1 [.val (.int x)] (.int x :: st) h := zx_go rfl rfl
theorem zs_22_1 : zrun zP sv C 22 1 [.val (.int x)] st h = zrun zP sv C 22 2 [.val (.int x)] (.int x :: st) h := zx_go rfl rfl
theorem zs_22_2 : zrun zP sv C 22 2 [l0] st h = zrun zP sv C 22 3 [l0] (.int (nI 1) :: st) h := zx_go rfl rfl
theorem zs_22_3 : zrun zP sv C 22 3 [l0] (.int y :: .int x :: st) h = zrun zP sv C 22 4 [l0] (.int ((x.toUInt32 >>> (y.toUInt32 &&& Int32.toUInt32 31)).toInt32) :: st) h := zx_go rfl rfl
theorem zs_22_4 : zrun zP sv C 22 4 [l0] st h = zrun zP sv C 22 7 [l0] (.int (nI 1431655765) :: st) h := zx_go rfl rfl
theorem zs_22_7 : zrun zP sv C 22 7 [l0] (.int y :: .int x :: st) h = zrun zP sv C 22 8 [l0] (.int (x &&& y) :: st) h := zx_go rfl rfl
theorem zs_22_8 : zrun zP sv C 22 8 [l0] (.int y :: .int x :: st) h = zrun zP sv C 22 9 [l0] (.int (x - y) :: st) h := zx_go rfl rfl
theorem zs_22_9 (hs : znw l0 = true) : zrun zP sv C 22 9 [l0] (.int x :: st) h = zrun zP sv C 22 10 [.val (.int x)] st h := zx_st hs rfl rfl rfl rfl rfl rfl
theorem zs_22_10 : zrun zP sv C 22 10 [.val (.int x)] st h = zrun zP sv C 22 11 [.val (.int x)] (.int x :: st) h := zx_go rfl rfl
theorem zs_22_11 : zrun zP sv C 22 11 [l0] st h = zrun zP sv C 22 14 [l0] (.int (nI 858993459) :: st) h := zx_go rfl rfl
theorem zs_22_14 : zrun zP sv C 22 14 [l0] (.int y :: .int x :: st) h = zrun zP sv C 22 15 [l0] (.int (x &&& y) :: st) h := zx_go rfl rfl
theorem zs_22_15 : zrun zP sv C 22 15 [.val (.int x)] st h = zrun zP sv C 22 16 [.val (.int x)] (.int x :: st) h := zx_go rfl rfl
theorem zs_22_16 : zrun zP sv C 22 16 [l0] st h = zrun zP sv C 22 17 [l0] (.int (nI 2) :: st) h := zx_go rfl rfl
theorem zs_22_17 : zrun zP sv C 22 17 [l0] (.int y :: .int x :: st) h = zrun zP sv C 22 18 [l0] (.int ((x.toUInt32 >>> (y.toUInt32 &&& Int32.toUInt32 31)).toInt32) :: st) h := zx_go rfl rfl
theorem zs_22_18 : zrun zP sv C 22 18 [l0] st h = zrun zP sv C 22 21 [l0] (.int (nI 858993459) :: st) h := zx_go rfl rfl
theorem zs_22_21 : zrun zP sv C 22 21 [l0] (.int y :: .int x :: st) h = zrun zP sv C 22 22 [l0] (.int (x &&& y) :: st) h := zx_go rfl rfl
theorem zs_22_22 : zrun zP sv C 22 22 [l0] (.int y :: .int x :: st) h = zrun zP sv C 22 23 [l0] (.int (x + y) :: st) h := zx_go rfl rfl
theorem zs_22_23 (hs : znw l0 = true) : zrun zP sv C 22 23 [l0] (.int x :: st) h = zrun zP sv C 22 24 [.val (.int x)] st h := zx_st hs rfl rfl rfl rfl rfl rfl
theorem zs_22_24 : zrun zP sv C 22 24 [.val (.int x)] st h = zrun zP sv C 22 25 [.val (.int x)] (.int x :: st) h := zx_go rfl rfl
theorem zs_22_25 : zrun zP sv C 22 25 [.val (.int x)] st h = zrun zP sv C 22 26 [.val (.int x)] (.int x :: st) h := zx_go rfl rfl
theorem zs_22_26 : zrun zP sv C 22 26 [l0] st h = zrun zP sv C 22 27 [l0] (.int (nI 4) :: st) h := zx_go rfl rfl
theorem zs_22_27 : zrun zP sv C 22 27 [l0] (.int y :: .int x :: st) h = zrun zP sv C 22 28 [l0] (.int ((x.toUInt32 >>> (y.toUInt32 &&& Int32.toUInt32 31)).toInt32) :: st) h := zx_go rfl rfl
theorem zs_22_28 : zrun zP sv C 22 28 [l0] (.int y :: .int x :: st) h = zrun zP sv C 22 29 [l0] (.int (x + y) :: st) h := zx_go rfl rfl
theorem zs_22_29 : zrun zP sv C 22 29 [l0] st h = zrun zP sv C 22 32 [l0] (.int (nI 252645135) :: st) h := zx_go rfl rfl
theorem zs_22_32 : zrun zP sv C 22 32 [l0] (.int y :: .int x :: st) h = zrun zP sv C 22 33 [l0] (.int (x &&& y) :: st) h := zx_go rfl rfl
theorem zs_22_33 (hs : znw l0 = true) : zrun zP sv C 22 33 [l0] (.int x :: st) h = zrun zP sv C 22 34 [.val (.int x)] st h := zx_st hs rfl rfl rfl rfl rfl rfl
theorem zs_22_34 : zrun zP sv C 22 34 [.val (.int x)] st h = zrun zP sv C 22 35 [.val (.int x)] (.int x :: st) h := zx_go rfl rfl
theorem zs_22_35 : zrun zP sv C 22 35 [.val (.int x)] st h = zrun zP sv C 22 36 [.val (.int x)] (.int x :: st) h := zx_go rfl rfl
theorem zs_22_36 : zrun zP sv C 22 36 [l0] st h = zrun zP sv C 22 38 [l0] (.int (nI 8) :: st) h := zx_go rfl rfl
theorem zs_22_38 : zrun zP sv C 22 38 [l0] (.int y :: .int x :: st) h = zrun zP sv C 22 39 [l0] (.int ((x.toUInt32 >>> (y.toUInt32 &&& Int32.toUInt32 31)).toInt32) :: st) h := zx_go rfl rfl
theorem zs_22_39 : zrun zP sv C 22 39 [l0] (.int y :: .int x :: st) h = zrun zP sv C 22 40 [l0] (.int (x + y) :: st) h := zx_go rfl rfl
theorem zs_22_40 (hs : znw l0 = true) : zrun zP sv C 22 40 [l0] (.int x :: st) h = zrun zP sv C 22 41 [.val (.int x)] st h := zx_st hs rfl rfl rfl rfl rfl rfl
theorem zs_22_41 : zrun zP sv C 22 41 [.val (.int x)] st h = zrun zP sv C 22 42 [.val (.int x)] (.int x :: st) h := zx_go rfl rfl
theorem zs_22_42 : zrun zP sv C 22 42 [.val (.int x)] st h = zrun zP sv C 22 43 [.val (.int x)] (.int x :: st) h := zx_go rfl rfl
theorem zs_22_43 : zrun zP sv C 22 43 [l0] st h = zrun zP sv C 22 45 [l0] (.int (nI 16) :: st) h := zx_go rfl rfl
theorem zs_22_45 : zrun zP sv C 22 45 [l0] (.int y :: .int x :: st) h = zrun zP sv C 22 46 [l0] (.int ((x.toUInt32 >>> (y.toUInt32 &&& Int32.toUInt32 31)).toInt32) :: st) h := zx_go rfl rfl
theorem zs_22_46 : zrun zP sv C 22 46 [l0] (.int y :: .int x :: st) h = zrun zP sv C 22 47 [l0] (.int (x + y) :: st) h := zx_go rfl rfl
theorem zs_22_47 (hs : znw l0 = true) : zrun zP sv C 22 47 [l0] (.int x :: st) h = zrun zP sv C 22 48 [.val (.int x)] st h := zx_st hs rfl rfl rfl rfl rfl rfl
theorem zs_22_48 : zrun zP sv C 22 48 [.val (.int x)] st h = zrun zP sv C 22 49 [.val (.int x)] (.int x :: st) h := zx_go rfl rfl
theorem zs_22_49 : zrun zP sv C 22 49 [l0] st h = zrun zP sv C 22 51 [l0] (.int (nI 63) :: st) h := zx_go rfl rfl
theorem zs_22_51 : zrun zP sv C 22 51 [l0] (.int y :: .int x :: st) h = zrun zP sv C 22 52 [l0] (.int (x &&& y) :: st) h := zx_go rfl rfl
theorem zs_22_52 : zrun zP sv C 22 52 [l0] [.int x] h = some (.inl (some (.int x)), h) := zx_end rfl rfl
theorem zs_23_0 : zrun zP sv C 23 0 [.val (.ref a)] st h = zrun zP sv C 23 1 [.val (.ref a)] (.ref a :: st) h := zx_go rfl rfl
theorem zs_23_1 : zrun zP sv C 23 1 [l0] [.ref a] h = zrun zP sv C 23 4 [l0] [] h := zx_go rfl rfl
theorem zs_23_4 : zrun zP sv C 23 4 [.val (.ref a)] st h = zrun zP sv C 23 5 [.val (.ref a)] (.ref a :: st) h := zx_go rfl rfl
theorem zs_23_5 : zrun zP sv C 23 5 [l0] st h = zrun zP sv C 23 8 [l0] (.ref h.2.1 :: st) (znew h (2, [.null, .int 0, .int 0, .int 0]) 4) := zx_go rfl rfl
theorem zs_23_8 : zrun zP sv C 23 8 [l0] (.ref a :: st) h = zrun zP sv C 23 9 [l0] (.ref a :: .ref a :: st) h := zx_go rfl rfl
theorem zs_23_9 : zrun zP sv C 23 9 [l0] [.ref b, r0, r1] h = zrc (h.1 b) 2 (zbk (C 0 [.ref b] h) (fun v h' => zrun zP sv C 23 12 [l0] (v.toList ++ [r0, r1]) h') (fun E h' => some (.inr E, h'))) := zx_cv (x0 := 2) rfl rfl rfl rfl rfl ⟨Nat.le_of_ble_eq_true rfl, rfl⟩ (fun _ _ => rfl)
theorem zs_23_12 : zrun zP sv C 23 12 [l0] (.ref b :: .ref a :: st) h = zpfd (h.1 a) 1 0 4 (.ref b) (fun c => zrun zP sv C 23 15 [l0] st (zup h a c)) := zx_putf (x0 := 4) rfl rfl
theorem zs_23_15 : zrun zP sv C 23 15 [.val (.ref a)] st h = zrun zP sv C 23 16 [.val (.ref a)] (.ref a :: st) h := zx_go rfl rfl
theorem zs_23_16 : zrun zP sv C 23 16 [l0] st h = zrun zP sv C 23 17 [l0] (.int (-1) :: st) h := zx_go rfl rfl
theorem zs_23_17 : zrun zP sv C 23 17 [l0] (.int x :: .ref a :: st) h = zpfd (h.1 a) 1 1 0 (.int x) (fun c => zrun zP sv C 23 20 [l0] st (zup h a c)) := zx_putf (x0 := 0) rfl rfl
theorem zs_23_20 : zrun zP sv C 23 20 [.val (.ref a)] st h = zrun zP sv C 23 21 [.val (.ref a)] (.ref a :: st) h := zx_go rfl rfl
theorem zs_23_21 : zrun zP sv C 23 21 [l0] st h = zrun zP sv C 23 24 [l0] (.ref h.2.1 :: st) (znew h (3, [.null, .int 0, .null, .int 0, .int 0]) 5) := zx_go rfl rfl
theorem zs_23_24 : zrun zP sv C 23 24 [l0] (.ref a :: st) h = zrun zP sv C 23 25 [l0] (.ref a :: .ref a :: st) h := zx_go rfl rfl
theorem zs_23_25 : zrun zP sv C 23 25 [l0] [.ref b, r0, r1] h = zrc (h.1 b) 3 (zbk (C 168 [.ref b] h) (fun v h' => zrun zP sv C 23 28 [l0] (v.toList ++ [r0, r1]) h') (fun E h' => some (.inr E, h'))) := zx_cv (x0 := 3) rfl rfl rfl rfl rfl ⟨Nat.le_of_ble_eq_true rfl, rfl⟩ (fun _ _ => rfl)
theorem zs_23_28 : zrun zP sv C 23 28 [l0] (.ref b :: .ref a :: st) h = zpfd (h.1 a) 1 2 4 (.ref b) (fun c => zrun zP sv C 23 31 [l0] st (zup h a c)) := zx_putf (x0 := 4) rfl rfl
theorem zs_23_31 : zrun zP sv C 23 31 [.val (.ref a)] st h = zrun zP sv C 23 32 [.val (.ref a)] (.ref a :: st) h := zx_go rfl rfl
theorem zs_23_32 : zrun zP sv C 23 32 [l0] st h = zrun zP sv C 23 35 [l0] (.ref h.2.1 :: st) (znew h (3, [.null, .int 0, .null, .int 0, .int 0]) 5) := zx_go rfl rfl
theorem zs_23_35 : zrun zP sv C 23 35 [l0] (.ref a :: st) h = zrun zP sv C 23 36 [l0] (.ref a :: .ref a :: st) h := zx_go rfl rfl
theorem zs_23_36 : zrun zP sv C 23 36 [l0] [.ref b, r0, r1] h = zrc (h.1 b) 3 (zbk (C 168 [.ref b] h) (fun v h' => zrun zP sv C 23 39 [l0] (v.toList ++ [r0, r1]) h') (fun E h' => some (.inr E, h'))) := zx_cv (x0 := 3) rfl rfl rfl rfl rfl ⟨Nat.le_of_ble_eq_true rfl, rfl⟩ (fun _ _ => rfl)
theorem zs_23_39 : zrun zP sv C 23 39 [l0] (.ref b :: .ref a :: st) h = zpfd (h.1 a) 1 3 4 (.ref b) (fun c => zrun zP sv C 23 42 [l0] st (zup h a c)) := zx_putf (x0 := 4) rfl rfl
theorem zs_23_42 : zrun zP sv C 23 42 [.val (.ref a)] st h = zrun zP sv C 23 43 [.val (.ref a)] (.ref a :: st) h := zx_go rfl rfl
theorem zs_23_43 : zrun zP sv C 23 43 [l0] st h = zrun zP sv C 23 44 [l0] (.int 0 :: st) h := zx_go rfl rfl
theorem zs_23_44 : zrun zP sv C 23 44 [l0] (.int x :: .ref a :: st) h = zpfd (h.1 a) 1 4 5 (.int x) (fun c => zrun zP sv C 23 47 [l0] st (zup h a c)) := zx_putf (x0 := 5) rfl rfl
theorem zs_23_47 : zrun zP sv C 23 47 [.val (.ref a)] st h = zrun zP sv C 23 48 [.val (.ref a)] (.ref a :: st) h := zx_go rfl rfl
theorem zs_23_48 : zrun zP sv C 23 48 [l0] st h = zrun zP sv C 23 51 [l0] (.ref h.2.1 :: st) (znew h (5, [.null, .int 0, .int 0]) 3) := zx_go rfl rfl
theorem zs_23_51 : zrun zP sv C 23 51 [l0] (.ref a :: st) h = zrun zP sv C 23 52 [l0] (.ref a :: .ref a :: st) h := zx_go rfl rfl
theorem zs_23_52 : zrun zP sv C 23 52 [l0] [.ref b, r0, r1] h = zrc (h.1 b) 5 (zbk (C 130 [.ref b] h) (fun v h' => zrun zP sv C 23 55 [l0] (v.toList ++ [r0, r1]) h') (fun E h' => some (.inr E, h'))) := zx_cv (x0 := 5) rfl rfl rfl rfl rfl ⟨Nat.le_of_ble_eq_true rfl, rfl⟩ (fun _ _ => rfl)
theorem zs_23_55 : zrun zP sv C 23 55 [l0] (.ref b :: .ref a :: st) h = zpfd (h.1 a) 1 5 4 (.ref b) (fun c => zrun zP sv C 23 58 [l0] st (zup h a c)) := zx_putf (x0 := 4) rfl rfl
theorem zs_23_58 : zrun zP sv C 23 58 [.val (.ref a)] st h = zrun zP sv C 23 59 [.val (.ref a)] (.ref a :: st) h := zx_go rfl rfl
theorem zs_23_59 : zrun zP sv C 23 59 [l0] st h = zrun zP sv C 23 62 [l0] (.ref h.2.1 :: st) (znew h (6, [.null, .null, .null, .null, .int 0, .int 0]) 6) := zx_go rfl rfl
theorem zs_23_62 : zrun zP sv C 23 62 [l0] (.ref a :: st) h = zrun zP sv C 23 63 [l0] (.ref a :: .ref a :: st) h := zx_go rfl rfl
theorem zs_23_63 : zrun zP sv C 23 63 [l0] st h = zrun zP sv C 23 65 [l0] (.int (nI 124) :: st) h := zx_go rfl rfl
theorem zs_23_65 : zrun zP sv C 23 65 [l0] [v1, .ref b, r0, r1] h = zrc (h.1 b) 6 (zbk (C 181 [.ref b, v1] h) (fun v h' => zrun zP sv C 23 68 [l0] (v.toList ++ [r0, r1]) h') (fun E h' => some (.inr E, h'))) := zx_cv (x0 := 6) rfl rfl rfl rfl rfl ⟨Nat.le_of_ble_eq_true rfl, rfl⟩ (fun _ _ => rfl)
theorem zs_23_68 : zrun zP sv C 23 68 [l0] (.ref b :: .ref a :: st) h = zpfd (h.1 a) 1 6 4 (.ref b) (fun c => zrun zP sv C 23 71 [l0] st (zup h a c)) := zx_putf (x0 := 4) rfl rfl
theorem zs_23_71 : zrun zP sv C 23 71 [.val (.ref a)] st h = zrun zP sv C 23 72 [.val (.ref a)] (.ref a :: st) h := zx_go rfl rfl
theorem zs_23_72 : zrun zP sv C 23 72 [l0] st h = zrun zP sv C 23 75 [l0] (.ref h.2.1 :: st) (znew h (6, [.null, .null, .null, .null, .int 0, .int 0]) 6) := zx_go rfl rfl
theorem zs_23_75 : zrun zP sv C 23 75 [l0] (.ref a :: st) h = zrun zP sv C 23 76 [l0] (.ref a :: .ref a :: st) h := zx_go rfl rfl
theorem zs_23_76 : zrun zP sv C 23 76 [l0] st h = zrun zP sv C 23 78 [l0] (.int (nI 124) :: st) h := zx_go rfl rfl
theorem zs_23_78 : zrun zP sv C 23 78 [l0] [v1, .ref b, r0, r1] h = zrc (h.1 b) 6 (zbk (C 181 [.ref b, v1] h) (fun v h' => zrun zP sv C 23 81 [l0] (v.toList ++ [r0, r1]) h') (fun E h' => some (.inr E, h'))) := zx_cv (x0 := 6) rfl rfl rfl rfl rfl ⟨Nat.le_of_ble_eq_true rfl, rfl⟩ (fun _ _ => rfl)
theorem zs_23_81 : zrun zP sv C 23 81 [l0] (.ref b :: .ref a :: st) h = zpfd (h.1 a) 1 7 4 (.ref b) (fun c => zrun zP sv C 23 84 [l0] st (zup h a c)) := zx_putf (x0 := 4) rfl rfl
theorem zs_23_84 : zrun zP sv C 23 84 [.val (.ref a)] st h = zrun zP sv C 23 85 [.val (.ref a)] (.ref a :: st) h := zx_go rfl rfl
theorem zs_23_85 : zrun zP sv C 23 85 [l0] st h = zrun zP sv C 23 88 [l0] (.ref h.2.1 :: st) (znew h (7, [.null, .null, .int 0]) 3) := zx_go rfl rfl
theorem zs_23_88 : zrun zP sv C 23 88 [l0] (.ref a :: st) h = zrun zP sv C 23 89 [l0] (.ref a :: .ref a :: st) h := zx_go rfl rfl
theorem zs_23_89 : zrun zP sv C 23 89 [l0] [.ref b, r0, r1] h = zrc (h.1 b) 7 (zbk (C 148 [.ref b] h) (fun v h' => zrun zP sv C 23 92 [l0] (v.toList ++ [r0, r1]) h') (fun E h' => some (.inr E, h'))) := zx_cv (x0 := 7) rfl rfl rfl rfl rfl ⟨Nat.le_of_ble_eq_true rfl, rfl⟩ (fun _ _ => rfl)
theorem zs_23_92 : zrun zP sv C 23 92 [l0] (.ref b :: .ref a :: st) h = zpfd (h.1 a) 1 8 4 (.ref b) (fun c => zrun zP sv C 23 95 [l0] st (zup h a c)) := zx_putf (x0 := 4) rfl rfl
theorem zs_23_95 : zrun zP sv C 23 95 [.val (.ref a)] st h = zrun zP sv C 23 96 [.val (.ref a)] (.ref a :: st) h := zx_go rfl rfl
theorem zs_23_96 : zrun zP sv C 23 96 [l0] st h = zrun zP sv C 23 99 [l0] (.ref h.2.1 :: st) (znew h (9, [.null]) 1) := zx_go rfl rfl
theorem zs_23_99 : zrun zP sv C 23 99 [l0] (.ref a :: st) h = zrun zP sv C 23 100 [l0] (.ref a :: .ref a :: st) h := zx_go rfl rfl
theorem zs_23_100 : zrun zP sv C 23 100 [l0] [.ref b, r0, r1] h = zrc (h.1 b) 9 (zbk (C 90 [.ref b] h) (fun v h' => zrun zP sv C 23 103 [l0] (v.toList ++ [r0, r1]) h') (fun E h' => some (.inr E, h'))) := zx_cv (x0 := 9) rfl rfl rfl rfl rfl ⟨Nat.le_of_ble_eq_true rfl, rfl⟩ (fun _ _ => rfl)
theorem zs_23_103 : zrun zP sv C 23 103 [l0] (.ref b :: .ref a :: st) h = zpfd (h.1 a) 1 9 4 (.ref b) (fun c => zrun zP sv C 23 106 [l0] st (zup h a c)) := zx_putf (x0 := 4) rfl rfl
theorem zs_23_106 : zrun zP sv C 23 106 [.val (.ref a)] st h = zrun zP sv C 23 107 [.val (.ref a)] (.ref a :: st) h := zx_go rfl rfl
theorem zs_23_107 : zrun zP sv C 23 107 [l0] st h = zrun zP sv C 23 110 [l0] (.ref h.2.1 :: st) (znew h (10, [.null, .null, .null]) 3) := zx_go rfl rfl
theorem zs_23_110 : zrun zP sv C 23 110 [l0] (.ref a :: st) h = zrun zP sv C 23 111 [l0] (.ref a :: .ref a :: st) h := zx_go rfl rfl
theorem zs_23_111 : zrun zP sv C 23 111 [l0] [.ref b, r0, r1] h = zrc (h.1 b) 10 (zbk (C 116 [.ref b] h) (fun v h' => zrun zP sv C 23 114 [l0] (v.toList ++ [r0, r1]) h') (fun E h' => some (.inr E, h'))) := zx_cv (x0 := 10) rfl rfl rfl rfl rfl ⟨Nat.le_of_ble_eq_true rfl, rfl⟩ (fun _ _ => rfl)
theorem zs_23_114 : zrun zP sv C 23 114 [l0] (.ref b :: .ref a :: st) h = zpfd (h.1 a) 1 10 4 (.ref b) (fun c => zrun zP sv C 23 117 [l0] st (zup h a c)) := zx_putf (x0 := 4) rfl rfl
theorem zs_23_117 : zrun zP sv C 23 117 [.val (.ref a)] st h = zrun zP sv C 23 118 [.val (.ref a)] (.ref a :: st) h := zx_go rfl rfl
theorem zs_23_118 : zrun zP sv C 23 118 [l0] st h = zrun zP sv C 23 121 [l0] (.ref h.2.1 :: st) (znew h (11, [.null, .null]) 2) := zx_go rfl rfl
theorem zs_23_121 : zrun zP sv C 23 121 [l0] (.ref a :: st) h = zrun zP sv C 23 122 [l0] (.ref a :: .ref a :: st) h := zx_go rfl rfl
theorem zs_23_122 : zrun zP sv C 23 122 [l0] [.ref b, r0, r1] h = zrc (h.1 b) 11 (zbk (C 142 [.ref b] h) (fun v h' => zrun zP sv C 23 125 [l0] (v.toList ++ [r0, r1]) h') (fun E h' => some (.inr E, h'))) := zx_cv (x0 := 11) rfl rfl rfl rfl rfl ⟨Nat.le_of_ble_eq_true rfl, rfl⟩ (fun _ _ => rfl)
theorem zs_23_125 : zrun zP sv C 23 125 [l0] (.ref b :: .ref a :: st) h = zpfd (h.1 a) 1 11 4 (.ref b) (fun c => zrun zP sv C 23 128 [l0] st (zup h a c)) := zx_putf (x0 := 4) rfl rfl
theorem zs_23_128 : zrun zP sv C 23 128 [.val (.ref a)] st h = zrun zP sv C 23 129 [.val (.ref a)] (.ref a :: st) h := zx_go rfl rfl
theorem zs_23_129 : zrun zP sv C 23 129 [l0] st h = zrun zP sv C 23 132 [l0] (.ref h.2.1 :: st) (znew h (12, [.null, .null, .null, .null, .null, .int 0, .null, .null, .null, .int 0]) 10) := zx_go rfl rfl
theorem zs_23_132 : zrun zP sv C 23 132 [l0] (.ref a :: st) h = zrun zP sv C 23 133 [l0] (.ref a :: .ref a :: st) h := zx_go rfl rfl
theorem zs_23_133 : zrun zP sv C 23 133 [l0] [.ref b, r0, r1] h = zrc (h.1 b) 12 (zbk (C 101 [.ref b] h) (fun v h' => zrun zP sv C 23 136 [l0] (v.toList ++ [r0, r1]) h') (fun E h' => some (.inr E, h'))) := zx_cv (x0 := 12) rfl rfl rfl rfl rfl ⟨Nat.le_of_ble_eq_true rfl, rfl⟩ (fun _ _ => rfl)
theorem zs_23_136 : zrun zP sv C 23 136 [l0] (.ref b :: .ref a :: st) h = zpfd (h.1 a) 1 12 4 (.ref b) (fun c => zrun zP sv C 23 139 [l0] st (zup h a c)) := zx_putf (x0 := 4) rfl rfl
theorem zs_23_139 : zrun zP sv C 23 139 [l0] [] h = some (.inl none, h) := zx_end rfl rfl
theorem zs_24_0 : zrun zP sv C 24 0 [.val (.ref a), l1, l2] st h = zrun zP sv C 24 1 [.val (.ref a), l1, l2] (.ref a :: st) h := zx_go rfl rfl
theorem zs_24_1 : zrun zP sv C 24 1 [l0, l1, l2] (.ref a :: st) h = zfld (h.1 a) 1 8 (fun v => zrun zP sv C 24 4 [l0, l1, l2] (v :: st) h) := zx_getf rfl rfl
theorem zs_24_4 : zrun zP sv C 24 4 [l0, l1, l2] [.ref b] h = zrc (h.1 b) 7 (zbk (C 149 [.ref b] h) (fun v h' => zrun zP sv C 24 7 [l0, l1, l2] (v.toList ++ []) h') (fun E h' => some (.inr E, h'))) := zx_cv (x0 := 7) rfl rfl rfl rfl rfl ⟨Nat.le_of_ble_eq_true rfl, rfl⟩ (fun _ _ => rfl)
theorem zs_24_7 (hs : znw l2 = true) : zrun zP sv C 24 7 [l0, l1, l2] (.ref a :: st) h = zrun zP sv C 24 8 [l0, l1, .val (.ref a)] st h := zx_st hs rfl rfl rfl rfl rfl rfl
theorem zs_24_8 : zrun zP sv C 24 8 [l0, l1, .val (.ref a)] st h = zrun zP sv C 24 9 [l0, l1, .val (.ref a)] (.ref a :: st) h := zx_go rfl rfl
theorem zs_24_9 : zrun zP sv C 24 9 [l0, l1, l2] [.ref b] h = zrc (h.1 b) 8 (zbk (C 137 [.ref b] h) (fun v h' => zrun zP sv C 24 12 [l0, l1, l2] (v.toList ++ []) h') (fun E h' => some (.inr E, h'))) := zx_cv (x0 := 8) rfl rfl rfl rfl rfl ⟨Nat.le_of_ble_eq_true rfl, rfl⟩ (fun _ _ => rfl)
theorem zs_24_12 : zrun zP sv C 24 12 [l0, l1, l2] (.int x :: st) h = if x = 0 then zrun zP sv C 24 25 [l0, l1, l2] st h else zrun zP sv C 24 15 [l0, l1, l2] st h := (zx_if rfl rfl).trans zc0_if
theorem zs_24_15 : zrun zP sv C 24 15 [l0, l1, l2] [] h = some (.inr 0, znew h (0, []) 6) := zx_end rfl rfl
theorem zs_24_25 : zrun zP sv C 24 25 [l0, l1, .val (.ref a)] st h = zrun zP sv C 24 26 [l0, l1, .val (.ref a)] (.ref a :: st) h := zx_go rfl rfl
theorem zs_24_26 : zrun zP sv C 24 26 [l0, .val (.int x), l2] st h = zrun zP sv C 24 27 [l0, .val (.int x), l2] (.int x :: st) h := zx_go rfl rfl
theorem zs_24_27 : zrun zP sv C 24 27 [l0, l1, l2] [v1, .ref b] h = zrc (h.1 b) 8 (zbk (C 139 [.ref b, v1] h) (fun v h' => zrun zP sv C 24 30 [l0, l1, l2] (v.toList ++ []) h') (fun E h' => some (.inr E, h'))) := zx_cv (x0 := 8) rfl rfl rfl rfl rfl ⟨Nat.le_of_ble_eq_true rfl, rfl⟩ (fun _ _ => rfl)
theorem zs_24_30 : zrun zP sv C 24 30 [l0, l1, .val (.ref a)] st h = zrun zP sv C 24 31 [l0, l1, .val (.ref a)] (.ref a :: st) h := zx_go rfl rfl
theorem zs_24_31 : zrun zP sv C 24 31 [l0, l1, l2] [.ref b] h = zrc (h.1 b) 8 (zbk (C 138 [.ref b] h) (fun v h' => zrun zP sv C 24 34 [l0, l1, l2] (v.toList ++ []) h') (fun E h' => some (.inr E, h'))) := zx_cv (x0 := 8) rfl rfl rfl rfl rfl ⟨Nat.le_of_ble_eq_true rfl, rfl⟩ (fun _ _ => rfl)
theorem zs_24_34 : zrun zP sv C 24 34 [l0, l1, l2] [.int x] h = some (.inl (some (.int x)), h) := zx_end rfl rfl
theorem zs_25_0 : zrun zP sv C 25 0 [.val (.ref a), l1] st h = zrun zP sv C 25 1 [.val (.ref a), l1] (.ref a :: st) h := zx_go rfl rfl
theorem zs_25_1 : zrun zP sv C 25 1 [l0, l1] (.ref a :: st) h = zfld (h.1 a) 1 8 (fun v => zrun zP sv C 25 4 [l0, l1] (v :: st) h) := zx_getf rfl rfl
theorem zs_25_4 : zrun zP sv C 25 4 [l0, l1] [.ref b] h = zrc (h.1 b) 7 (zbk (C 149 [.ref b] h) (fun v h' => zrun zP sv C 25 7 [l0, l1] (v.toList ++ []) h') (fun E h' => some (.inr E, h'))) := zx_cv (x0 := 7) rfl rfl rfl rfl rfl ⟨Nat.le_of_ble_eq_true rfl, rfl⟩ (fun _ _ => rfl)
theorem zs_25_7 : zrun zP sv C 25 7 [l0, l1] [.ref b] h = zrc (h.1 b) 8 (zbk (C 138 [.ref b] h) (fun v h' => zrun zP sv C 25 10 [l0, l1] (v.toList ++ []) h') (fun E h' => some (.inr E, h'))) := zx_cv (x0 := 8) rfl rfl rfl rfl rfl ⟨Nat.le_of_ble_eq_true rfl, rfl⟩ (fun _ _ => rfl)
theorem zs_25_10 (hs : znw l1 = true) : zrun zP sv C 25 10 [l0, l1] (.int x :: st) h = zrun zP sv C 25 11 [l0, .val (.int x)] st h := zx_st hs rfl rfl rfl rfl rfl rfl
theorem zs_25_11 : zrun zP sv C 25 11 [.val (.ref a), l1] st h = zrun zP sv C 25 12 [.val (.ref a), l1] (.ref a :: st) h := zx_go rfl rfl
theorem zs_25_12 : zrun zP sv C 25 12 [l0, l1] (.ref a :: st) h = zfld (h.1 a) 1 8 (fun v => zrun zP sv C 25 15 [l0, l1] (v :: st) h) := zx_getf rfl rfl
theorem zs_25_15 : zrun zP sv C 25 15 [l0, l1] [.ref b] h = zrc (h.1 b) 7 (zbk (C 149 [.ref b] h) (fun v h' => zrun zP sv C 25 18 [l0, l1] (v.toList ++ []) h') (fun E h' => some (.inr E, h'))) := zx_cv (x0 := 7) rfl rfl rfl rfl rfl ⟨Nat.le_of_ble_eq_true rfl, rfl⟩ (fun _ _ => rfl)
theorem zs_25_18 : zrun zP sv C 25 18 [l0, l1] [.ref b] h = zrc (h.1 b) 8 (zbk (C 140 [.ref b] h) (fun v h' => zrun zP sv C 25 21 [l0, l1] (v.toList ++ []) h') (fun E h' => some (.inr E, h'))) := zx_cv (x0 := 8) rfl rfl rfl rfl rfl ⟨Nat.le_of_ble_eq_true rfl, rfl⟩ (fun _ _ => rfl)
theorem zs_25_21 : zrun zP sv C 25 21 [l0, .val (.int x)] st h = zrun zP sv C 25 22 [l0, .val (.int x)] (.int x :: st) h := zx_go rfl rfl
theorem zs_25_22 : zrun zP sv C 25 22 [l0, l1] [.int x] h = some (.inl (some (.int x)), h) := zx_end rfl rfl
theorem zs_26_0 : zrun zP sv C 26 0 [.val (.ref a), l1] st h = zrun zP sv C 26 1 [.val (.ref a), l1] (.ref a :: st) h := zx_go rfl rfl
theorem zs_26_1 : zrun zP sv C 26 1 [l0, l1] (.ref a :: st) h = zfld (h.1 a) 1 8 (fun v => zrun zP sv C 26 4 [l0, l1] (v :: st) h) := zx_getf rfl rfl
theorem zs_26_4 : zrun zP sv C 26 4 [l0, l1] [.ref b] h = zrc (h.1 b) 7 (zbk (C 152 [.ref b] h) (fun v h' => zrun zP sv C 26 7 [l0, l1] (v.toList ++ []) h') (fun E h' => some (.inr E, h'))) := zx_cv (x0 := 7) rfl rfl rfl rfl rfl ⟨Nat.le_of_ble_eq_true rfl, rfl⟩ (fun _ _ => rfl)
theorem zs_26_7 (hs : znw l1 = true) : zrun zP sv C 26 7 [l0, l1] (.int x :: st) h = zrun zP sv C 26 8 [l0, .val (.int x)] st h := zx_st hs rfl rfl rfl rfl rfl rfl
theorem zs_26_8 : zrun zP sv C 26 8 [.val (.ref a), l1] st h = zrun zP sv C 26 9 [.val (.ref a), l1] (.ref a :: st) h := zx_go rfl rfl
theorem zs_26_9 : zrun zP sv C 26 9 [l0, l1] (.ref a :: st) h = zfld (h.1 a) 1 8 (fun v => zrun zP sv C 26 12 [l0, l1] (v :: st) h) := zx_getf rfl rfl
theorem zs_26_12 : zrun zP sv C 26 12 [l0, l1] [.ref b] h = zrc (h.1 b) 7 (zbk (C 149 [.ref b] h) (fun v h' => zrun zP sv C 26 15 [l0, l1] (v.toList ++ []) h') (fun E h' => some (.inr E, h'))) := zx_cv (x0 := 7) rfl rfl rfl rfl rfl ⟨Nat.le_of_ble_eq_true rfl, rfl⟩ (fun _ _ => rfl)
theorem zs_26_15 : zrun zP sv C 26 15 [l0, l1] [.ref b] h = zrc (h.1 b) 8 (zbk (C 140 [.ref b] h) (fun v h' => zrun zP sv C 26 18 [l0, l1] (v.toList ++ []) h') (fun E h' => some (.inr E, h'))) := zx_cv (x0 := 8) rfl rfl rfl rfl rfl ⟨Nat.le_of_ble_eq_true rfl, rfl⟩ (fun _ _ => rfl)
theorem zs_26_18 : zrun zP sv C 26 18 [l0, .val (.int x)] st h = zrun zP sv C 26 19 [l0, .val (.int x)] (.int x :: st) h := zx_go rfl rfl
theorem zs_26_19 : zrun zP sv C 26 19 [l0, l1] st h = zrun zP sv C 26 20 [l0, l1] (.int (-1) :: st) h := zx_go rfl rfl
theorem zs_26_20 : zrun zP sv C 26 20 [l0, l1] (.int y :: .int x :: st) h = if x = y then zrun zP sv C 26 23 [l0, l1] st h else zrun zP sv C 26 44 [l0, l1] st h := (zx_ic rfl rfl).trans zc1_if
theorem zs_26_23 : zrun zP sv C 26 23 [.val (.ref a), l1] st h = zrun zP sv C 26 24 [.val (.ref a), l1] (.ref a :: st) h := zx_go rfl rfl
theorem zs_26_24 : zrun zP sv C 26 24 [.val (.ref a), l1] st h = zrun zP sv C 26 25 [.val (.ref a), l1] (.ref a :: st) h := zx_go rfl rfl
theorem zs_26_25 : zrun zP sv C 26 25 [l0, l1] (.ref a :: st) h = zfld (h.1 a) 1 8 (fun v => zrun zP sv C 26 28 [l0, l1] (v :: st) h) := zx_getf rfl rfl
theorem zs_26_28 : zrun zP sv C 26 28 [l0, l1] [.ref b, r0] h = zrc (h.1 b) 7 (zbk (C 151 [.ref b] h) (fun v h' => zrun zP sv C 26 31 [l0, l1] (v.toList ++ [r0]) h') (fun E h' => some (.inr E, h'))) := zx_cv (x0 := 7) rfl rfl rfl rfl rfl ⟨Nat.le_of_ble_eq_true rfl, rfl⟩ (fun _ _ => rfl)
theorem zs_26_31 : zrun zP sv C 26 31 [l0, l1] (.int x :: .ref a :: st) h = zpfd (h.1 a) 1 1 0 (.int x) (fun c => zrun zP sv C 26 34 [l0, l1] st (zup h a c)) := zx_putf (x0 := 0) rfl rfl
theorem zs_26_34 : zrun zP sv C 26 34 [l0, l1] [] h = some (.inr 1, znew h (0, []) 6) := zx_end rfl rfl
theorem zs_26_44 : zrun zP sv C 26 44 [.val (.ref a), l1] st h = zrun zP sv C 26 45 [.val (.ref a), l1] (.ref a :: st) h := zx_go rfl rfl
theorem zs_26_45 : zrun zP sv C 26 45 [l0, l1] [.ref b] h = zrc (h.1 b) 1 (zbk (C 73 [.ref b] h) (fun v h' => zrun zP sv C 26 48 [l0, l1] (v.toList ++ []) h') (fun E h' => some (.inr E, h'))) := zx_cv (x0 := 1) rfl rfl rfl rfl rfl ⟨Nat.le_of_ble_eq_true rfl, rfl⟩ (fun _ _ => rfl)
theorem zs_26_48 : zrun zP sv C 26 48 [.val (.ref a), l1] st h = zrun zP sv C 26 49 [.val (.ref a), l1] (.ref a :: st) h := zx_go rfl rfl
theorem zs_26_49 : zrun zP sv C 26 49 [.val (.ref a), l1] st h = zrun zP sv C 26 50 [.val (.ref a), l1] (.ref a :: st) h := zx_go rfl rfl
theorem zs_26_50 : zrun zP sv C 26 50 [l0, l1] (.ref a :: st) h = zfld (h.1 a) 1 8 (fun v => zrun zP sv C 26 53 [l0, l1] (v :: st) h) := zx_getf rfl rfl
theorem zs_26_53 : zrun zP sv C 26 53 [l0, l1] [.ref b, r0] h = zrc (h.1 b) 7 (zbk (C 150 [.ref b] h) (fun v h' => zrun zP sv C 26 56 [l0, l1] (v.toList ++ [r0]) h') (fun E h' => some (.inr E, h'))) := zx_cv (x0 := 7) rfl rfl rfl rfl rfl ⟨Nat.le_of_ble_eq_true rfl, rfl⟩ (fun _ _ => rfl)
theorem zs_26_56 : zrun zP sv C 26 56 [l0, .val (.int x)] st h = zrun zP sv C 26 57 [l0, .val (.int x)] (.int x :: st) h := zx_go rfl rfl
theorem zs_26_57 : zrun zP sv C 26 57 [l0, l1] [v2, v1, .ref b] h = zrc (h.1 b) 1 (zbk (C 74 [.ref b, v1, v2] h) (fun v h' => zrun zP sv C 26 60 [l0, l1] (v.toList ++ []) h') (fun E h' => some (.inr E, h'))) := zx_cv (x0 := 1) rfl rfl rfl rfl rfl ⟨Nat.le_of_ble_eq_true rfl, rfl⟩ (fun _ _ => rfl)
theorem zs_26_60 : zrun zP sv C 26 60 [.val (.ref a), l1] st h = zrun zP sv C 26 61 [.val (.ref a), l1] (.ref a :: st) h := zx_go rfl rfl
theorem zs_26_61 : zrun zP sv C 26 61 [l0, l1] (.ref a :: st) h = zfld (h.1 a) 1 5 (fun v => zrun zP sv C 26 64 [l0, l1] (v :: st) h) := zx_getf rfl rfl
theorem zs_26_64 : zrun zP sv C 26 64 [.val (.ref a), l1] st h = zrun zP sv C 26 65 [.val (.ref a), l1] (.ref a :: st) h := zx_go rfl rfl
theorem zs_26_65 : zrun zP sv C 26 65 [l0, l1] (.ref a :: st) h = zfld (h.1 a) 1 2 (fun v => zrun zP sv C 26 68 [l0, l1] (v :: st) h) := zx_getf rfl rfl
theorem zs_26_68 : zrun zP sv C 26 68 [l0, l1] [v1, .ref b] h = zrc (h.1 b) 5 (zbk (C 132 [.ref b, v1] h) (fun v h' => zrun zP sv C 26 71 [l0, l1] (v.toList ++ []) h') (fun E h' => some (.inr E, h'))) := zx_cv (x0 := 5) rfl rfl rfl rfl rfl ⟨Nat.le_of_ble_eq_true rfl, rfl⟩ (fun _ _ => rfl)
theorem zs_26_71 : zrun zP sv C 26 71 [.val (.ref a), l1] st h = zrun zP sv C 26 72 [.val (.ref a), l1] (.ref a :: st) h := zx_go rfl rfl
theorem zs_26_72 : zrun zP sv C 26 72 [l0, l1] (.ref a :: st) h = zfld (h.1 a) 1 2 (fun v => zrun zP sv C 26 75 [l0, l1] (v :: st) h) := zx_getf rfl rfl
theorem zs_26_75 : zrun zP sv C 26 75 [.val (.ref a), l1] st h = zrun zP sv C 26 76 [.val (.ref a), l1] (.ref a :: st) h := zx_go rfl rfl
theorem zs_26_76 : zrun zP sv C 26 76 [.val (.ref a), l1] st h = zrun zP sv C 26 77 [.val (.ref a), l1] (.ref a :: st) h := zx_go rfl rfl
theorem zs_26_77 : zrun zP sv C 26 77 [l0, l1] (.ref a :: st) h = zfld (h.1 a) 1 8 (fun v => zrun zP sv C 26 80 [l0, l1] (v :: st) h) := zx_getf rfl rfl
theorem zs_26_80 : zrun zP sv C 26 80 [l0, l1] [.ref b, r0, r1] h = zrc (h.1 b) 7 (zbk (C 150 [.ref b] h) (fun v h' => zrun zP sv C 26 83 [l0, l1] (v.toList ++ [r0, r1]) h') (fun E h' => some (.inr E, h'))) := zx_cv (x0 := 7) rfl rfl rfl rfl rfl ⟨Nat.le_of_ble_eq_true rfl, rfl⟩ (fun _ _ => rfl)
theorem zs_26_83 : zrun zP sv C 26 83 [l0, .val (.int x)] st h = zrun zP sv C 26 84 [l0, .val (.int x)] (.int x :: st) h := zx_go rfl rfl
theorem zs_26_84 : zrun zP sv C 26 84 [l0, l1] [v2, v1, .ref b, r0] h = zrc (h.1 b) 1 (zbk (C 75 [.ref b, v1, v2] h) (fun v h' => zrun zP sv C 26 87 [l0, l1] (v.toList ++ [r0]) h') (fun E h' => some (.inr E, h'))) := zx_cv (x0 := 1) rfl rfl rfl rfl rfl ⟨Nat.le_of_ble_eq_true rfl, rfl⟩ (fun _ _ => rfl)
theorem zs_26_87 : zrun zP sv C 26 87 [l0, l1] [v1, .ref b] h = zrc (h.1 b) 3 (zbk (C 174 [.ref b, v1] h) (fun v h' => zrun zP sv C 26 90 [l0, l1] (v.toList ++ []) h') (fun E h' => some (.inr E, h'))) := zx_cv (x0 := 3) rfl rfl rfl rfl rfl ⟨Nat.le_of_ble_eq_true rfl, rfl⟩ (fun _ _ => rfl)
theorem zs_26_90 : zrun zP sv C 26 90 [l0, l1] [.int x] h = some (.inl (some (.int x)), h) := zx_end rfl rfl
theorem zs_27_0 : zrun zP sv C 27 0 [.val (.ref a), l1] st h = zrun zP sv C 27 1 [.val (.ref a), l1] (.ref a :: st) h := zx_go rfl rfl
theorem zs_27_1 : zrun zP sv C 27 1 [l0, .val (.int x)] st h = zrun zP sv C 27 2 [l0, .val (.int x)] (.int x :: st) h := zx_go rfl rfl
theorem zs_27_2 : zrun zP sv C 27 2 [l0, l1] [v1, .ref b] h = zrc (h.1 b) 1 (zbk (C 70 [.ref b, v1] h) (fun v h' => zrun zP sv C 27 5 [l0, l1] (v.toList ++ []) h') (fun E h' => some (.inr E, h'))) := zx_cv (x0 := 1) rfl rfl rfl rfl rfl ⟨Nat.le_of_ble_eq_true rfl, rfl⟩ (fun _ _ => rfl)
theorem zs_27_5 : zrun zP sv C 27 5 [l0, l1] (.ref a :: st) h = zrun zP sv C 27 6 [l0, l1] st h := zx_go rfl rfl
theorem zs_27_6 : zrun zP sv C 27 6 [.val (.ref a), l1] st h = zrun zP sv C 27 7 [.val (.ref a), l1] (.ref a :: st) h := zx_go rfl rfl
theorem zs_27_7 : zrun zP sv C 27 7 [l0, l1] (.ref a :: st) h = zfld (h.1 a) 1 5 (fun v => zrun zP sv C 27 10 [l0, l1] (v :: st) h) := zx_getf rfl rfl
theorem zs_27_10 : zrun zP sv C 27 10 [.val (.ref a), l1] st h = zrun zP sv C 27 11 [.val (.ref a), l1] (.ref a :: st) h := zx_go rfl rfl
theorem zs_27_11 : zrun zP sv C 27 11 [l0, l1] (.ref a :: st) h = zfld (h.1 a) 1 2 (fun v => zrun zP sv C 27 14 [l0, l1] (v :: st) h) := zx_getf rfl rfl
theorem zs_27_14 : zrun zP sv C 27 14 [l0, l1] [v1, .ref b] h = zrc (h.1 b) 5 (zbk (C 132 [.ref b, v1] h) (fun v h' => zrun zP sv C 27 17 [l0, l1] (v.toList ++ []) h') (fun E h' => some (.inr E, h'))) := zx_cv (x0 := 5) rfl rfl rfl rfl rfl ⟨Nat.le_of_ble_eq_true rfl, rfl⟩ (fun _ _ => rfl)
theorem zs_27_17 : zrun zP sv C 27 17 [.val (.ref a), l1] st h = zrun zP sv C 27 18 [.val (.ref a), l1] (.ref a :: st) h := zx_go rfl rfl
theorem zs_27_18 : zrun zP sv C 27 18 [l0, l1] (.ref a :: st) h = zfld (h.1 a) 1 2 (fun v => zrun zP sv C 27 21 [l0, l1] (v :: st) h) := zx_getf rfl rfl
theorem zs_27_21 : zrun zP sv C 27 21 [l0, .val (.int x)] st h = zrun zP sv C 27 22 [l0, .val (.int x)] (.int x :: st) h := zx_go rfl rfl
theorem zs_27_22 : zrun zP sv C 27 22 [l0, l1] [v1, .ref b] h = zrc (h.1 b) 3 (zbk (C 176 [.ref b, v1] h) (fun v h' => zrun zP sv C 27 25 [l0, l1] (v.toList ++ []) h') (fun E h' => some (.inr E, h'))) := zx_cv (x0 := 3) rfl rfl rfl rfl rfl ⟨Nat.le_of_ble_eq_true rfl, rfl⟩ (fun _ _ => rfl)
theorem zs_27_25 : zrun zP sv C 27 25 [.val (.ref a), l1] st h = zrun zP sv C 27 26 [.val (.ref a), l1] (.ref a :: st) h := zx_go rfl rfl
theorem zs_27_26 : zrun zP sv C 27 26 [l0, l1] (.ref a :: st) h = zfld (h.1 a) 1 2 (fun v => zrun zP sv C 27 29 [l0, l1] (v :: st) h) := zx_getf rfl rfl
theorem zs_27_29 : zrun zP sv C 27 29 [l0, l1] [.ref b] h = zrc (h.1 b) 3 (zbk (C 169 [.ref b] h) (fun v h' => zrun zP sv C 27 32 [l0, l1] (v.toList ++ []) h') (fun E h' => some (.inr E, h'))) := zx_cv (x0 := 3) rfl rfl rfl rfl rfl ⟨Nat.le_of_ble_eq_true rfl, rfl⟩ (fun _ _ => rfl)
theorem zs_27_32 : zrun zP sv C 27 32 [l0, l1] [.int x] h = some (.inl (some (.int x)), h) := zx_end rfl rfl
theorem zs_28_0 : zrun zP sv C 28 0 [.val (.ref a), l1, l2, l3, l4, l5] st h = zrun zP sv C 28 1 [.val (.ref a), l1, l2, l3, l4, l5] (.ref a :: st) h := zx_go rfl rfl
theorem zs_28_1 : zrun zP sv C 28 1 [l0, .val (.int x), l2, l3, l4, l5] st h = zrun zP sv C 28 2 [l0, .val (.int x), l2, l3, l4, l5] (.int x :: st) h := zx_go rfl rfl
theorem zs_28_2 : zrun zP sv C 28 2 [l0, l1, l2, l3, l4, l5] [v1, .ref b] h = zrc (h.1 b) 1 (zbk (C 70 [.ref b, v1] h) (fun v h' => zrun zP sv C 28 5 [l0, l1, l2, l3, l4, l5] (v.toList ++ []) h') (fun E h' => some (.inr E, h'))) := zx_cv (x0 := 1) rfl rfl rfl rfl rfl ⟨Nat.le_of_ble_eq_true rfl, rfl⟩ (fun _ _ => rfl)
theorem zs_28_5 (hs : znw l2 = true) : zrun zP sv C 28 5 [l0, l1, l2, l3, l4, l5] (.ref a :: st) h = zrun zP sv C 28 6 [l0, l1, .val (.ref a), l3, l4, l5] st h := zx_st hs rfl rfl rfl rfl rfl rfl
theorem zs_28_6 : zrun zP sv C 28 6 [.val (.ref a), l1, l2, l3, l4, l5] st h = zrun zP sv C 28 7 [.val (.ref a), l1, l2, l3, l4, l5] (.ref a :: st) h := zx_go rfl rfl
theorem zs_28_7 : zrun zP sv C 28 7 [l0, l1, l2, l3, l4, l5] (.ref a :: st) h = zfld (h.1 a) 1 9 (fun v => zrun zP sv C 28 10 [l0, l1, l2, l3, l4, l5] (v :: st) h) := zx_getf rfl rfl
theorem zs_28_10 : zrun zP sv C 28 10 [l0, l1, .val (.ref a), l3, l4, l5] st h = zrun zP sv C 28 11 [l0, l1, .val (.ref a), l3, l4, l5] (.ref a :: st) h := zx_go rfl rfl
theorem zs_28_11 : zrun zP sv C 28 11 [l0, l1, .val (.ref a), l3, l4, l5] st h = zrun zP sv C 28 12 [l0, l1, .val (.ref a), l3, l4, l5] (.ref a :: st) h := zx_go rfl rfl
theorem zs_28_12 : zrun zP sv C 28 12 [l0, l1, l2, l3, l4, l5] [.ref b, r0, r1] h = zrc (h.1 b) 6 (zbk (C 183 [.ref b] h) (fun v h' => zrun zP sv C 28 15 [l0, l1, l2, l3, l4, l5] (v.toList ++ [r0, r1]) h') (fun E h' => some (.inr E, h'))) := zx_cv (x0 := 6) rfl rfl rfl rfl rfl ⟨Nat.le_of_ble_eq_true rfl, rfl⟩ (fun _ _ => rfl)
theorem zs_28_15 : zrun zP sv C 28 15 [.val (.ref a), l1, l2, l3, l4, l5] st h = zrun zP sv C 28 16 [.val (.ref a), l1, l2, l3, l4, l5] (.ref a :: st) h := zx_go rfl rfl
theorem zs_28_16 : zrun zP sv C 28 16 [l0, l1, l2, l3, l4, l5] (.ref a :: st) h = zfld (h.1 a) 1 7 (fun v => zrun zP sv C 28 19 [l0, l1, l2, l3, l4, l5] (v :: st) h) := zx_getf rfl rfl
theorem zs_28_19 : zrun zP sv C 28 19 [l0, l1, l2, l3, l4, l5] [v3, v2, v1, .ref b] h = zrc (h.1 b) 9 (zbk (C 95 [.ref b, v1, v2, v3] h) (fun v h' => zrun zP sv C 28 22 [l0, l1, l2, l3, l4, l5] (v.toList ++ []) h') (fun E h' => some (.inr E, h'))) := zx_cv (x0 := 9) rfl rfl rfl rfl rfl ⟨Nat.le_of_ble_eq_true rfl, rfl⟩ (fun _ _ => rfl)
theorem zs_28_22 (hs : znw l3 = true) : zrun zP sv C 28 22 [l0, l1, l2, l3, l4, l5] (.int x :: st) h = zrun zP sv C 28 23 [l0, l1, l2, .val (.int x), l4, l5] st h := zx_st hs rfl rfl rfl rfl rfl rfl
theorem zs_28_23 : zrun zP sv C 28 23 [.val (.ref a), l1, l2, l3, l4, l5] st h = zrun zP sv C 28 24 [.val (.ref a), l1, l2, l3, l4, l5] (.ref a :: st) h := zx_go rfl rfl
theorem zs_28_24 : zrun zP sv C 28 24 [.val (.ref a), l1, l2, l3, l4, l5] st h = zrun zP sv C 28 25 [.val (.ref a), l1, l2, l3, l4, l5] (.ref a :: st) h := zx_go rfl rfl
theorem zs_28_25 : zrun zP sv C 28 25 [l0, l1, l2, l3, l4, l5] (.ref a :: st) h = zfld (h.1 a) 1 7 (fun v => zrun zP sv C 28 28 [l0, l1, l2, l3, l4, l5] (v :: st) h) := zx_getf rfl rfl
theorem zs_28_28 : zrun zP sv C 28 28 [l0, l1, l2, .val (.int x), l4, l5] st h = zrun zP sv C 28 29 [l0, l1, l2, .val (.int x), l4, l5] (.int x :: st) h := zx_go rfl rfl
theorem zs_28_29 : zrun zP sv C 28 29 [l0, l1, l2, l3, l4, l5] [v2, v1, .ref b] h = zrc (h.1 b) 1 (zbk (C 75 [.ref b, v1, v2] h) (fun v h' => zrun zP sv C 28 32 [l0, l1, l2, l3, l4, l5] (v.toList ++ []) h') (fun E h' => some (.inr E, h'))) := zx_cv (x0 := 1) rfl rfl rfl rfl rfl ⟨Nat.le_of_ble_eq_true rfl, rfl⟩ (fun _ _ => rfl)
theorem zs_28_32 (hs : znw l4 = true) : zrun zP sv C 28 32 [l0, l1, l2, l3, l4, l5] (.ref a :: st) h = zrun zP sv C 28 34 [l0, l1, l2, l3, .val (.ref a), l5] st h := zx_st hs rfl rfl rfl rfl rfl rfl
theorem zs_28_34 : zrun zP sv C 28 34 [l0, l1, .val (.ref a), l3, l4, l5] st h = zrun zP sv C 28 35 [l0, l1, .val (.ref a), l3, l4, l5] (.ref a :: st) h := zx_go rfl rfl
theorem zs_28_35 : zrun zP sv C 28 35 [l0, l1, l2, l3, l4, l5] [.ref b] h = zrc (h.1 b) 6 (zbk (C 182 [.ref b] h) (fun v h' => zrun zP sv C 28 38 [l0, l1, l2, l3, l4, l5] (v.toList ++ []) h') (fun E h' => some (.inr E, h'))) := zx_cv (x0 := 6) rfl rfl rfl rfl rfl ⟨Nat.le_of_ble_eq_true rfl, rfl⟩ (fun _ _ => rfl)
theorem zs_28_38 : zrun zP sv C 28 38 [l0, l1, l2, l3, .val (.ref a), l5] st h = zrun zP sv C 28 40 [l0, l1, l2, l3, .val (.ref a), l5] (.ref a :: st) h := zx_go rfl rfl
theorem zs_28_40 : zrun zP sv C 28 40 [l0, l1, l2, l3, l4, l5] [.ref b, r0] h = zrc (h.1 b) 6 (zbk (C 182 [.ref b] h) (fun v h' => zrun zP sv C 28 43 [l0, l1, l2, l3, l4, l5] (v.toList ++ [r0]) h') (fun E h' => some (.inr E, h'))) := zx_cv (x0 := 6) rfl rfl rfl rfl rfl ⟨Nat.le_of_ble_eq_true rfl, rfl⟩ (fun _ _ => rfl)
theorem zs_28_43 : zrun zP sv C 28 43 [l0, l1, l2, l3, l4, l5] (.int y :: .int x :: st) h = zrun zP sv C 28 44 [l0, l1, l2, l3, l4, l5] (.int (x - y) :: st) h := zx_go rfl rfl
theorem zs_28_44 (hs : znw l5 = true) : zrun zP sv C 28 44 [l0, l1, l2, l3, l4, l5] (.int x :: st) h = zrun zP sv C 28 46 [l0, l1, l2, l3, l4, .val (.int x)] st h := zx_st hs rfl rfl rfl rfl rfl rfl
theorem zs_28_46 : zrun zP sv C 28 46 [.val (.ref a), l1, l2, l3, l4, l5] st h = zrun zP sv C 28 47 [.val (.ref a), l1, l2, l3, l4, l5] (.ref a :: st) h := zx_go rfl rfl
theorem zs_28_47 : zrun zP sv C 28 47 [l0, l1, l2, l3, l4, l5] (.ref a :: st) h = zfld (h.1 a) 1 5 (fun v => zrun zP sv C 28 50 [l0, l1, l2, l3, l4, l5] (v :: st) h) := zx_getf rfl rfl
theorem zs_28_50 : zrun zP sv C 28 50 [.val (.ref a), l1, l2, l3, l4, l5] st h = zrun zP sv C 28 51 [.val (.ref a), l1, l2, l3, l4, l5] (.ref a :: st) h := zx_go rfl rfl
theorem zs_28_51 : zrun zP sv C 28 51 [l0, l1, l2, l3, l4, l5] (.ref a :: st) h = zfld (h.1 a) 1 2 (fun v => zrun zP sv C 28 54 [l0, l1, l2, l3, l4, l5] (v :: st) h) := zx_getf rfl rfl
theorem zs_28_54 : zrun zP sv C 28 54 [l0, l1, l2, l3, l4, l5] [v1, .ref b] h = zrc (h.1 b) 5 (zbk (C 132 [.ref b, v1] h) (fun v h' => zrun zP sv C 28 57 [l0, l1, l2, l3, l4, l5] (v.toList ++ []) h') (fun E h' => some (.inr E, h'))) := zx_cv (x0 := 5) rfl rfl rfl rfl rfl ⟨Nat.le_of_ble_eq_true rfl, rfl⟩ (fun _ _ => rfl)
theorem zs_28_57 : zrun zP sv C 28 57 [.val (.ref a), l1, l2, l3, l4, l5] st h = zrun zP sv C 28 58 [.val (.ref a), l1, l2, l3, l4, l5] (.ref a :: st) h := zx_go rfl rfl
theorem zs_28_58 : zrun zP sv C 28 58 [l0, l1, l2, l3, l4, l5] (.ref a :: st) h = zfld (h.1 a) 1 2 (fun v => zrun zP sv C 28 61 [l0, l1, l2, l3, l4, l5] (v :: st) h) := zx_getf rfl rfl
theorem zs_28_61 : zrun zP sv C 28 61 [l0, .val (.int x), l2, l3, l4, l5] st h = zrun zP sv C 28 62 [l0, .val (.int x), l2, l3, l4, l5] (.int x :: st) h := zx_go rfl rfl
theorem zs_28_62 : zrun zP sv C 28 62 [l0, l1, l2, l3, .val (.ref a), l5] st h = zrun zP sv C 28 64 [l0, l1, l2, l3, .val (.ref a), l5] (.ref a :: st) h := zx_go rfl rfl
theorem zs_28_64 : zrun zP sv C 28 64 [l0, l1, l2, l3, l4, l5] [v2, v1, .ref b] h = zrc (h.1 b) 3 (zbk (C 175 [.ref b, v1, v2] h) (fun v h' => zrun zP sv C 28 67 [l0, l1, l2, l3, l4, l5] (v.toList ++ []) h') (fun E h' => some (.inr E, h'))) := zx_cv (x0 := 3) rfl rfl rfl rfl rfl ⟨Nat.le_of_ble_eq_true rfl, rfl⟩ (fun _ _ => rfl)
theorem zs_28_67 : zrun zP sv C 28 67 [.val (.ref a), l1, l2, l3, l4, l5] st h = zrun zP sv C 28 68 [.val (.ref a), l1, l2, l3, l4, l5] (.ref a :: st) h := zx_go rfl rfl
theorem zs_28_68 : zrun zP sv C 28 68 [l0, l1, l2, l3, l4, l5] (.ref a :: st) h = zfld (h.1 a) 1 2 (fun v => zrun zP sv C 28 71 [l0, l1, l2, l3, l4, l5] (v :: st) h) := zx_getf rfl rfl
theorem zs_28_71 : zrun zP sv C 28 71 [l0, l1, l2, l3, l4, .val (.int x)] st h = zrun zP sv C 28 73 [l0, l1, l2, l3, l4, .val (.int x)] (.int x :: st) h := zx_go rfl rfl
theorem zs_28_73 : zrun zP sv C 28 73 [l0, l1, l2, l3, l4, l5] [v1, .ref b] h = zrc (h.1 b) 3 (zbk (C 177 [.ref b, v1] h) (fun v h' => zrun zP sv C 28 76 [l0, l1, l2, l3, l4, l5] (v.toList ++ []) h') (fun E h' => some (.inr E, h'))) := zx_cv (x0 := 3) rfl rfl rfl rfl rfl ⟨Nat.le_of_ble_eq_true rfl, rfl⟩ (fun _ _ => rfl)
theorem zs_28_76 : zrun zP sv C 28 76 [l0, l1, l2, l3, l4, .val (.int x)] st h = zrun zP sv C 28 78 [l0, l1, l2, l3, l4, .val (.int x)] (.int x :: st) h := zx_go rfl rfl
theorem zs_28_78 : zrun zP sv C 28 78 [l0, l1, l2, l3, l4, l5] [.int x] h = some (.inl (some (.int x)), h) := zx_end rfl rfl
theorem zs_29_0 : zrun zP sv C 29 0 [.val (.ref a), l1, l2, l3, l4, l5] st h = zrun zP sv C 29 1 [.val (.ref a), l1, l2, l3, l4, l5] (.ref a :: st) h := zx_go rfl rfl
theorem zs_29_1 : zrun zP sv C 29 1 [l0, .val (.int x), l2, l3, l4, l5] st h = zrun zP sv C 29 2 [l0, .val (.int x), l2, l3, l4, l5] (.int x :: st) h := zx_go rfl rfl
theorem zs_29_2 : zrun zP sv C 29 2 [l0, l1, l2, l3, l4, l5] [v1, .ref b] h = zrc (h.1 b) 1 (zbk (C 70 [.ref b, v1] h) (fun v h' => zrun zP sv C 29 5 [l0, l1, l2, l3, l4, l5] (v.toList ++ []) h') (fun E h' => some (.inr E, h'))) := zx_cv (x0 := 1) rfl rfl rfl rfl rfl ⟨Nat.le_of_ble_eq_true rfl, rfl⟩ (fun _ _ => rfl)
theorem zs_29_5 (hs : znw l3 = true) : zrun zP sv C 29 5 [l0, l1, l2, l3, l4, l5] (.ref a :: st) h = zrun zP sv C 29 6 [l0, l1, l2, .val (.ref a), l4, l5] st h := zx_st hs rfl rfl rfl rfl rfl rfl
theorem zs_29_6 : zrun zP sv C 29 6 [l0, l1, .val (.int x), l3, l4, l5] st h = zrun zP sv C 29 7 [l0, l1, .val (.int x), l3, l4, l5] (.int x :: st) h := zx_go rfl rfl
theorem zs_29_7 : zrun zP sv C 29 7 [l0, l1, l2, l3, l4, l5] [v0] h = zbk (C 72 [v0] h) (fun v h' => zrun zP sv C 29 10 [l0, l1, l2, l3, l4, l5] (v.toList ++ []) h') (fun E h' => some (.inr E, h')) := zx_cs rfl rfl rfl rfl ⟨Nat.le_of_ble_eq_true rfl, rfl⟩ (fun _ _ => rfl)
theorem zs_29_10 : zrun zP sv C 29 10 [.val (.ref a), l1, l2, l3, l4, l5] st h = zrun zP sv C 29 11 [.val (.ref a), l1, l2, l3, l4, l5] (.ref a :: st) h := zx_go rfl rfl
theorem zs_29_11 : zrun zP sv C 29 11 [l0, l1, l2, l3, l4, l5] [.ref b] h = zrc (h.1 b) 1 (zbk (C 73 [.ref b] h) (fun v h' => zrun zP sv C 29 14 [l0, l1, l2, l3, l4, l5] (v.toList ++ []) h') (fun E h' => some (.inr E, h'))) := zx_cv (x0 := 1) rfl rfl rfl rfl rfl ⟨Nat.le_of_ble_eq_true rfl, rfl⟩ (fun _ _ => rfl)
theorem zs_29_14 : zrun zP sv C 29 14 [.val (.ref a), l1, l2, l3, l4, l5] st h = zrun zP sv C 29 15 [.val (.ref a), l1, l2, l3, l4, l5] (.ref a :: st) h := zx_go rfl rfl
theorem zs_29_15 : zrun zP sv C 29 15 [l0, l1, l2, l3, l4, l5] (.ref a :: st) h = zfld (h.1 a) 1 9 (fun v => zrun zP sv C 29 18 [l0, l1, l2, l3, l4, l5] (v :: st) h) := zx_getf rfl rfl
theorem zs_29_18 : zrun zP sv C 29 18 [l0, l1, l2, .val (.ref a), l4, l5] st h = zrun zP sv C 29 19 [l0, l1, l2, .val (.ref a), l4, l5] (.ref a :: st) h := zx_go rfl rfl
theorem zs_29_19 : zrun zP sv C 29 19 [l0, l1, .val (.int x), l3, l4, l5] st h = zrun zP sv C 29 20 [l0, l1, .val (.int x), l3, l4, l5] (.int x :: st) h := zx_go rfl rfl
theorem zs_29_20 : zrun zP sv C 29 20 [.val (.ref a), l1, l2, l3, l4, l5] st h = zrun zP sv C 29 21 [.val (.ref a), l1, l2, l3, l4, l5] (.ref a :: st) h := zx_go rfl rfl
theorem zs_29_21 : zrun zP sv C 29 21 [l0, l1, l2, l3, l4, l5] (.ref a :: st) h = zfld (h.1 a) 1 6 (fun v => zrun zP sv C 29 24 [l0, l1, l2, l3, l4, l5] (v :: st) h) := zx_getf rfl rfl
theorem zs_29_24 : zrun zP sv C 29 24 [l0, l1, l2, l3, l4, l5] [v3, v2, v1, .ref b] h = zrc (h.1 b) 9 (zbk (C 93 [.ref b, v1, v2, v3] h) (fun v h' => zrun zP sv C 29 27 [l0, l1, l2, l3, l4, l5] (v.toList ++ []) h') (fun E h' => some (.inr E, h'))) := zx_cv (x0 := 9) rfl rfl rfl rfl rfl ⟨Nat.le_of_ble_eq_true rfl, rfl⟩ (fun _ _ => rfl)
theorem zs_29_27 (hs : znw l4 = true) : zrun zP sv C 29 27 [l0, l1, l2, l3, l4, l5] (.int x :: st) h = zrun zP sv C 29 29 [l0, l1, l2, l3, .val (.int x), l5] st h := zx_st hs rfl rfl rfl rfl rfl rfl
theorem zs_29_29 : zrun zP sv C 29 29 [.val (.ref a), l1, l2, l3, l4, l5] st h = zrun zP sv C 29 30 [.val (.ref a), l1, l2, l3, l4, l5] (.ref a :: st) h := zx_go rfl rfl
theorem zs_29_30 : zrun zP sv C 29 30 [l0, l1, l2, l3, l4, l5] (.ref a :: st) h = zfld (h.1 a) 1 9 (fun v => zrun zP sv C 29 33 [l0, l1, l2, l3, l4, l5] (v :: st) h) := zx_getf rfl rfl
theorem zs_29_33 : zrun zP sv C 29 33 [.val (.ref a), l1, l2, l3, l4, l5] st h = zrun zP sv C 29 34 [.val (.ref a), l1, l2, l3, l4, l5] (.ref a :: st) h := zx_go rfl rfl
theorem zs_29_34 : zrun zP sv C 29 34 [l0, l1, l2, l3, l4, l5] (.ref a :: st) h = zfld (h.1 a) 1 6 (fun v => zrun zP sv C 29 37 [l0, l1, l2, l3, l4, l5] (v :: st) h) := zx_getf rfl rfl
theorem zs_29_37 : zrun zP sv C 29 37 [l0, l1, l2, l3, .val (.int x), l5] st h = zrun zP sv C 29 39 [l0, l1, l2, l3, .val (.int x), l5] (.int x :: st) h := zx_go rfl rfl
theorem zs_29_39 : zrun zP sv C 29 39 [.val (.ref a), l1, l2, l3, l4, l5] st h = zrun zP sv C 29 40 [.val (.ref a), l1, l2, l3, l4, l5] (.ref a :: st) h := zx_go rfl rfl
theorem zs_29_40 : zrun zP sv C 29 40 [l0, l1, l2, l3, l4, l5] (.ref a :: st) h = zfld (h.1 a) 1 7 (fun v => zrun zP sv C 29 43 [l0, l1, l2, l3, l4, l5] (v :: st) h) := zx_getf rfl rfl
theorem zs_29_43 : zrun zP sv C 29 43 [l0, l1, l2, l3, l4, l5] [v3, v2, v1, .ref b] h = zrc (h.1 b) 9 (zbk (C 95 [.ref b, v1, v2, v3] h) (fun v h' => zrun zP sv C 29 46 [l0, l1, l2, l3, l4, l5] (v.toList ++ []) h') (fun E h' => some (.inr E, h'))) := zx_cv (x0 := 9) rfl rfl rfl rfl rfl ⟨Nat.le_of_ble_eq_true rfl, rfl⟩ (fun _ _ => rfl)
theorem zs_29_46 (hs : znw l5 = true) : zrun zP sv C 29 46 [l0, l1, l2, l3, l4, l5] (.int x :: st) h = zrun zP sv C 29 48 [l0, l1, l2, l3, l4, .val (.int x)] st h := zx_st hs rfl rfl rfl rfl rfl rfl
theorem zs_29_48 : zrun zP sv C 29 48 [.val (.ref a), l1, l2, l3, l4, l5] st h = zrun zP sv C 29 49 [.val (.ref a), l1, l2, l3, l4, l5] (.ref a :: st) h := zx_go rfl rfl
theorem zs_29_49 : zrun zP sv C 29 49 [.val (.ref a), l1, l2, l3, l4, l5] st h = zrun zP sv C 29 50 [.val (.ref a), l1, l2, l3, l4, l5] (.ref a :: st) h := zx_go rfl rfl
theorem zs_29_50 : zrun zP sv C 29 50 [l0, l1, l2, l3, l4, l5] (.ref a :: st) h = zfld (h.1 a) 1 7 (fun v => zrun zP sv C 29 53 [l0, l1, l2, l3, l4, l5] (v :: st) h) := zx_getf rfl rfl
theorem zs_29_53 : zrun zP sv C 29 53 [l0, l1, l2, l3, l4, .val (.int x)] st h = zrun zP sv C 29 55 [l0, l1, l2, l3, l4, .val (.int x)] (.int x :: st) h := zx_go rfl rfl
theorem zs_29_55 : zrun zP sv C 29 55 [l0, l1, l2, l3, l4, l5] [v2, v1, .ref b] h = zrc (h.1 b) 1 (zbk (C 74 [.ref b, v1, v2] h) (fun v h' => zrun zP sv C 29 58 [l0, l1, l2, l3, l4, l5] (v.toList ++ []) h') (fun E h' => some (.inr E, h'))) := zx_cv (x0 := 1) rfl rfl rfl rfl rfl ⟨Nat.le_of_ble_eq_true rfl, rfl⟩ (fun _ _ => rfl)
theorem zs_29_58 : zrun zP sv C 29 58 [.val (.ref a), l1, l2, l3, l4, l5] st h = zrun zP sv C 29 59 [.val (.ref a), l1, l2, l3, l4, l5] (.ref a :: st) h := zx_go rfl rfl
theorem zs_29_59 : zrun zP sv C 29 59 [l0, l1, l2, l3, l4, l5] (.ref a :: st) h = zfld (h.1 a) 1 5 (fun v => zrun zP sv C 29 62 [l0, l1, l2, l3, l4, l5] (v :: st) h) := zx_getf rfl rfl
theorem zs_29_62 : zrun zP sv C 29 62 [.val (.ref a), l1, l2, l3, l4, l5] st h = zrun zP sv C 29 63 [.val (.ref a), l1, l2, l3, l4, l5] (.ref a :: st) h := zx_go rfl rfl
theorem zs_29_63 : zrun zP sv C 29 63 [l0, l1, l2, l3, l4, l5] (.ref a :: st) h = zfld (h.1 a) 1 2 (fun v => zrun zP sv C 29 66 [l0, l1, l2, l3, l4, l5] (v :: st) h) := zx_getf rfl rfl
theorem zs_29_66 : zrun zP sv C 29 66 [l0, l1, l2, l3, l4, l5] [v1, .ref b] h = zrc (h.1 b) 5 (zbk (C 132 [.ref b, v1] h) (fun v h' => zrun zP sv C 29 69 [l0, l1, l2, l3, l4, l5] (v.toList ++ []) h') (fun E h' => some (.inr E, h'))) := zx_cv (x0 := 5) rfl rfl rfl rfl rfl ⟨Nat.le_of_ble_eq_true rfl, rfl⟩ (fun _ _ => rfl)
theorem zs_29_69 : zrun zP sv C 29 69 [.val (.ref a), l1, l2, l3, l4, l5] st h = zrun zP sv C 29 70 [.val (.ref a), l1, l2, l3, l4, l5] (.ref a :: st) h := zx_go rfl rfl
theorem zs_29_70 : zrun zP sv C 29 70 [l0, l1, l2, l3, l4, l5] (.ref a :: st) h = zfld (h.1 a) 1 2 (fun v => zrun zP sv C 29 73 [l0, l1, l2, l3, l4, l5] (v :: st) h) := zx_getf rfl rfl
theorem zs_29_73 : zrun zP sv C 29 73 [.val (.ref a), l1, l2, l3, l4, l5] st h = zrun zP sv C 29 74 [.val (.ref a), l1, l2, l3, l4, l5] (.ref a :: st) h := zx_go rfl rfl
theorem zs_29_74 : zrun zP sv C 29 74 [.val (.ref a), l1, l2, l3, l4, l5] st h = zrun zP sv C 29 75 [.val (.ref a), l1, l2, l3, l4, l5] (.ref a :: st) h := zx_go rfl rfl
theorem zs_29_75 : zrun zP sv C 29 75 [l0, l1, l2, l3, l4, l5] (.ref a :: st) h = zfld (h.1 a) 1 7 (fun v => zrun zP sv C 29 78 [l0, l1, l2, l3, l4, l5] (v :: st) h) := zx_getf rfl rfl
theorem zs_29_78 : zrun zP sv C 29 78 [l0, l1, l2, l3, l4, .val (.int x)] st h = zrun zP sv C 29 80 [l0, l1, l2, l3, l4, .val (.int x)] (.int x :: st) h := zx_go rfl rfl
theorem zs_29_80 : zrun zP sv C 29 80 [l0, l1, l2, l3, l4, l5] [v2, v1, .ref b, r0] h = zrc (h.1 b) 1 (zbk (C 75 [.ref b, v1, v2] h) (fun v h' => zrun zP sv C 29 83 [l0, l1, l2, l3, l4, l5] (v.toList ++ [r0]) h') (fun E h' => some (.inr E, h'))) := zx_cv (x0 := 1) rfl rfl rfl rfl rfl ⟨Nat.le_of_ble_eq_true rfl, rfl⟩ (fun _ _ => rfl)
theorem zs_29_83 : zrun zP sv C 29 83 [l0, l1, l2, l3, l4, l5] [v1, .ref b] h = zrc (h.1 b) 3 (zbk (C 174 [.ref b, v1] h) (fun v h' => zrun zP sv C 29 86 [l0, l1, l2, l3, l4, l5] (v.toList ++ []) h') (fun E h' => some (.inr E, h'))) := zx_cv (x0 := 3) rfl rfl rfl rfl rfl ⟨Nat.le_of_ble_eq_true rfl, rfl⟩ (fun _ _ => rfl)
theorem zs_29_86 : zrun zP sv C 29 86 [l0, l1, l2, l3, l4, l5] [.int x] h = some (.inl (some (.int x)), h) := zx_end rfl rfl
theorem zs_30_0 : zrun zP sv C 30 0 [.val (.ref a), l1, l2, l3, l4, l5, l6, l7] st h = zrun zP sv C 30 1 [.val (.ref a), l1, l2, l3, l4, l5, l6, l7] (.ref a :: st) h := zx_go rfl rfl
theorem zs_30_1 : zrun zP sv C 30 1 [l0, .val (.int x), l2, l3, l4, l5, l6, l7] st h = zrun zP sv C 30 2 [l0, .val (.int x), l2, l3, l4, l5, l6, l7] (.int x :: st) h := zx_go rfl rfl
theorem zs_30_2 : zrun zP sv C 30 2 [l0, l1, l2, l3, l4, l5, l6, l7] [v1, .ref b] h = zrc (h.1 b) 1 (zbk (C 70 [.ref b, v1] h) (fun v h' => zrun zP sv C 30 5 [l0, l1, l2, l3, l4, l5, l6, l7] (v.toList ++ []) h') (fun E h' => some (.inr E, h'))) := zx_cv (x0 := 1) rfl rfl rfl rfl rfl ⟨Nat.le_of_ble_eq_true rfl, rfl⟩ (fun _ _ => rfl)
theorem zs_30_5 (hs : znw l4 = true) : zrun zP sv C 30 5 [l0, l1, l2, l3, l4, l5, l6, l7] (.ref a :: st) h = zrun zP sv C 30 7 [l0, l1, l2, l3, .val (.ref a), l5, l6, l7] st h := zx_st hs rfl rfl rfl rfl rfl rfl
theorem zs_30_7 : zrun zP sv C 30 7 [.val (.ref a), l1, l2, l3, l4, l5, l6, l7] st h = zrun zP sv C 30 8 [.val (.ref a), l1, l2, l3, l4, l5, l6, l7] (.ref a :: st) h := zx_go rfl rfl
theorem zs_30_8 : zrun zP sv C 30 8 [l0, l1, l2, .val (.int x), l4, l5, l6, l7] st h = zrun zP sv C 30 9 [l0, l1, l2, .val (.int x), l4, l5, l6, l7] (.int x :: st) h := zx_go rfl rfl
theorem zs_30_9 : zrun zP sv C 30 9 [l0, l1, l2, l3, l4, l5, l6, l7] [v1, .ref b] h = zrc (h.1 b) 1 (zbk (C 70 [.ref b, v1] h) (fun v h' => zrun zP sv C 30 12 [l0, l1, l2, l3, l4, l5, l6, l7] (v.toList ++ []) h') (fun E h' => some (.inr E, h'))) := zx_cv (x0 := 1) rfl rfl rfl rfl rfl ⟨Nat.le_of_ble_eq_true rfl, rfl⟩ (fun _ _ => rfl)
theorem zs_30_12 (hs : znw l5 = true) : zrun zP sv C 30 12 [l0, l1, l2, l3, l4, l5, l6, l7] (.ref a :: st) h = zrun zP sv C 30 14 [l0, l1, l2, l3, l4, .val (.ref a), l6, l7] st h := zx_st hs rfl rfl rfl rfl rfl rfl
theorem zs_30_14 : zrun zP sv C 30 14 [l0, l1, .val (.int x), l3, l4, l5, l6, l7] st h = zrun zP sv C 30 15 [l0, l1, .val (.int x), l3, l4, l5, l6, l7] (.int x :: st) h := zx_go rfl rfl
theorem zs_30_15 : zrun zP sv C 30 15 [l0, l1, l2, l3, l4, l5, l6, l7] [v0] h = zbk (C 72 [v0] h) (fun v h' => zrun zP sv C 30 18 [l0, l1, l2, l3, l4, l5, l6, l7] (v.toList ++ []) h') (fun E h' => some (.inr E, h')) := zx_cs rfl rfl rfl rfl ⟨Nat.le_of_ble_eq_true rfl, rfl⟩ (fun _ _ => rfl)
theorem zs_30_18 : zrun zP sv C 30 18 [.val (.ref a), l1, l2, l3, l4, l5, l6, l7] st h = zrun zP sv C 30 19 [.val (.ref a), l1, l2, l3, l4, l5, l6, l7] (.ref a :: st) h := zx_go rfl rfl
theorem zs_30_19 : zrun zP sv C 30 19 [l0, l1, l2, l3, l4, l5, l6, l7] (.ref a :: st) h = zfld (h.1 a) 1 9 (fun v => zrun zP sv C 30 22 [l0, l1, l2, l3, l4, l5, l6, l7] (v :: st) h) := zx_getf rfl rfl
theorem zs_30_22 : zrun zP sv C 30 22 [l0, l1, l2, l3, .val (.ref a), l5, l6, l7] st h = zrun zP sv C 30 24 [l0, l1, l2, l3, .val (.ref a), l5, l6, l7] (.ref a :: st) h := zx_go rfl rfl
theorem zs_30_24 : zrun zP sv C 30 24 [l0, l1, .val (.int x), l3, l4, l5, l6, l7] st h = zrun zP sv C 30 25 [l0, l1, .val (.int x), l3, l4, l5, l6, l7] (.int x :: st) h := zx_go rfl rfl
theorem zs_30_25 : zrun zP sv C 30 25 [l0, l1, l2, l3, l4, .val (.ref a), l6, l7] st h = zrun zP sv C 30 27 [l0, l1, l2, l3, l4, .val (.ref a), l6, l7] (.ref a :: st) h := zx_go rfl rfl
theorem zs_30_27 : zrun zP sv C 30 27 [.val (.ref a), l1, l2, l3, l4, l5, l6, l7] st h = zrun zP sv C 30 28 [.val (.ref a), l1, l2, l3, l4, l5, l6, l7] (.ref a :: st) h := zx_go rfl rfl
theorem zs_30_28 : zrun zP sv C 30 28 [l0, l1, l2, l3, l4, l5, l6, l7] (.ref a :: st) h = zfld (h.1 a) 1 6 (fun v => zrun zP sv C 30 31 [l0, l1, l2, l3, l4, l5, l6, l7] (v :: st) h) := zx_getf rfl rfl
theorem zs_30_31 : zrun zP sv C 30 31 [l0, l1, l2, l3, l4, l5, l6, l7] [v4, v3, v2, v1, .ref b] h = zrc (h.1 b) 9 (zbk (C 92 [.ref b, v1, v2, v3, v4] h) (fun v h' => zrun zP sv C 30 34 [l0, l1, l2, l3, l4, l5, l6, l7] (v.toList ++ []) h') (fun E h' => some (.inr E, h'))) := zx_cv (x0 := 9) rfl rfl rfl rfl rfl ⟨Nat.le_of_ble_eq_true rfl, rfl⟩ (fun _ _ => rfl)
theorem zs_30_34 (hs : znw l6 = true) : zrun zP sv C 30 34 [l0, l1, l2, l3, l4, l5, l6, l7] (.int x :: st) h = zrun zP sv C 30 36 [l0, l1, l2, l3, l4, l5, .val (.int x), l7] st h := zx_st hs rfl rfl rfl rfl rfl rfl
theorem zs_30_36 : zrun zP sv C 30 36 [.val (.ref a), l1, l2, l3, l4, l5, l6, l7] st h = zrun zP sv C 30 37 [.val (.ref a), l1, l2, l3, l4, l5, l6, l7] (.ref a :: st) h := zx_go rfl rfl
theorem zs_30_37 : zrun zP sv C 30 37 [.val (.ref a), l1, l2, l3, l4, l5, l6, l7] st h = zrun zP sv C 30 38 [.val (.ref a), l1, l2, l3, l4, l5, l6, l7] (.ref a :: st) h := zx_go rfl rfl
theorem zs_30_38 : zrun zP sv C 30 38 [l0, l1, l2, l3, l4, l5, l6, l7] (.ref a :: st) h = zfld (h.1 a) 1 6 (fun v => zrun zP sv C 30 41 [l0, l1, l2, l3, l4, l5, l6, l7] (v :: st) h) := zx_getf rfl rfl
theorem zs_30_41 : zrun zP sv C 30 41 [l0, l1, l2, l3, l4, l5, .val (.int x), l7] st h = zrun zP sv C 30 43 [l0, l1, l2, l3, l4, l5, .val (.int x), l7] (.int x :: st) h := zx_go rfl rfl
theorem zs_30_43 : zrun zP sv C 30 43 [l0, l1, l2, l3, l4, l5, l6, l7] [v2, v1, .ref b] h = zrc (h.1 b) 1 (zbk (C 74 [.ref b, v1, v2] h) (fun v h' => zrun zP sv C 30 46 [l0, l1, l2, l3, l4, l5, l6, l7] (v.toList ++ []) h') (fun E h' => some (.inr E, h'))) := zx_cv (x0 := 1) rfl rfl rfl rfl rfl ⟨Nat.le_of_ble_eq_true rfl, rfl⟩ (fun _ _ => rfl)
theorem zs_30_46 : zrun zP sv C 30 46 [.val (.ref a), l1, l2, l3, l4, l5, l6, l7] st h = zrun zP sv C 30 47 [.val (.ref a), l1, l2, l3, l4, l5, l6, l7] (.ref a :: st) h := zx_go rfl rfl
theorem zs_30_47 : zrun zP sv C 30 47 [l0, l1, l2, l3, l4, l5, l6, l7] (.ref a :: st) h = zfld (h.1 a) 1 5 (fun v => zrun zP sv C 30 50 [l0, l1, l2, l3, l4, l5, l6, l7] (v :: st) h) := zx_getf rfl rfl
theorem zs_30_50 : zrun zP sv C 30 50 [.val (.ref a), l1, l2, l3, l4, l5, l6, l7] st h = zrun zP sv C 30 51 [.val (.ref a), l1, l2, l3, l4, l5, l6, l7] (.ref a :: st) h := zx_go rfl rfl
theorem zs_30_51 : zrun zP sv C 30 51 [l0, l1, l2, l3, l4, l5, l6, l7] (.ref a :: st) h = zfld (h.1 a) 1 2 (fun v => zrun zP sv C 30 54 [l0, l1, l2, l3, l4, l5, l6, l7] (v :: st) h) := zx_getf rfl rfl
theorem zs_30_54 : zrun zP sv C 30 54 [l0, l1, l2, l3, l4, l5, l6, l7] [v1, .ref b] h = zrc (h.1 b) 5 (zbk (C 132 [.ref b, v1] h) (fun v h' => zrun zP sv C 30 57 [l0, l1, l2, l3, l4, l5, l6, l7] (v.toList ++ []) h') (fun E h' => some (.inr E, h'))) := zx_cv (x0 := 5) rfl rfl rfl rfl rfl ⟨Nat.le_of_ble_eq_true rfl, rfl⟩ (fun _ _ => rfl)
theorem zs_30_57 : zrun zP sv C 30 57 [.val (.ref a), l1, l2, l3, l4, l5, l6, l7] st h = zrun zP sv C 30 58 [.val (.ref a), l1, l2, l3, l4, l5, l6, l7] (.ref a :: st) h := zx_go rfl rfl
theorem zs_30_58 : zrun zP sv C 30 58 [.val (.ref a), l1, l2, l3, l4, l5, l6, l7] st h = zrun zP sv C 30 59 [.val (.ref a), l1, l2, l3, l4, l5, l6, l7] (.ref a :: st) h := zx_go rfl rfl
theorem zs_30_59 : zrun zP sv C 30 59 [l0, l1, l2, l3, l4, l5, l6, l7] (.ref a :: st) h = zfld (h.1 a) 1 6 (fun v => zrun zP sv C 30 62 [l0, l1, l2, l3, l4, l5, l6, l7] (v :: st) h) := zx_getf rfl rfl
theorem zs_30_62 : zrun zP sv C 30 62 [l0, l1, l2, l3, l4, l5, .val (.int x), l7] st h = zrun zP sv C 30 64 [l0, l1, l2, l3, l4, l5, .val (.int x), l7] (.int x :: st) h := zx_go rfl rfl
theorem zs_30_64 : zrun zP sv C 30 64 [l0, l1, l2, l3, l4, l5, l6, l7] [v2, v1, .ref b] h = zrc (h.1 b) 1 (zbk (C 75 [.ref b, v1, v2] h) (fun v h' => zrun zP sv C 30 67 [l0, l1, l2, l3, l4, l5, l6, l7] (v.toList ++ []) h') (fun E h' => some (.inr E, h'))) := zx_cv (x0 := 1) rfl rfl rfl rfl rfl ⟨Nat.le_of_ble_eq_true rfl, rfl⟩ (fun _ _ => rfl)
theorem zs_30_67 (hs : znw l7 = true) : zrun zP sv C 30 67 [l0, l1, l2, l3, l4, l5, l6, l7] (.ref a :: st) h = zrun zP sv C 30 69 [l0, l1, l2, l3, l4, l5, l6, .val (.ref a)] st h := zx_st hs rfl rfl rfl rfl rfl rfl
theorem zs_30_69 : zrun zP sv C 30 69 [.val (.ref a), l1, l2, l3, l4, l5, l6, l7] st h = zrun zP sv C 30 70 [.val (.ref a), l1, l2, l3, l4, l5, l6, l7] (.ref a :: st) h := zx_go rfl rfl
theorem zs_30_70 : zrun zP sv C 30 70 [l0, l1, l2, l3, l4, l5, l6, l7] (.ref a :: st) h = zfld (h.1 a) 1 2 (fun v => zrun zP sv C 30 73 [l0, l1, l2, l3, l4, l5, l6, l7] (v :: st) h) := zx_getf rfl rfl
theorem zs_30_73 : zrun zP sv C 30 73 [l0, .val (.int x), l2, l3, l4, l5, l6, l7] st h = zrun zP sv C 30 74 [l0, .val (.int x), l2, l3, l4, l5, l6, l7] (.int x :: st) h := zx_go rfl rfl
theorem zs_30_74 : zrun zP sv C 30 74 [l0, l1, l2, l3, l4, l5, l6, .val (.ref a)] st h = zrun zP sv C 30 76 [l0, l1, l2, l3, l4, l5, l6, .val (.ref a)] (.ref a :: st) h := zx_go rfl rfl
theorem zs_30_76 : zrun zP sv C 30 76 [l0, l1, l2, l3, l4, l5, l6, l7] [v2, v1, .ref b] h = zrc (h.1 b) 3 (zbk (C 175 [.ref b, v1, v2] h) (fun v h' => zrun zP sv C 30 79 [l0, l1, l2, l3, l4, l5, l6, l7] (v.toList ++ []) h') (fun E h' => some (.inr E, h'))) := zx_cv (x0 := 3) rfl rfl rfl rfl rfl ⟨Nat.le_of_ble_eq_true rfl, rfl⟩ (fun _ _ => rfl)
theorem zs_30_79 : zrun zP sv C 30 79 [l0, l1, l2, l3, l4, l5, l6, .val (.ref a)] st h = zrun zP sv C 30 81 [l0, l1, l2, l3, l4, l5, l6, .val (.ref a)] (.ref a :: st) h := zx_go rfl rfl
theorem zs_30_81 : zrun zP sv C 30 81 [l0, l1, l2, l3, l4, l5, l6, l7] [.ref b] h = zrc (h.1 b) 6 (zbk (C 182 [.ref b] h) (fun v h' => zrun zP sv C 30 84 [l0, l1, l2, l3, l4, l5, l6, l7] (v.toList ++ []) h') (fun E h' => some (.inr E, h'))) := zx_cv (x0 := 6) rfl rfl rfl rfl rfl ⟨Nat.le_of_ble_eq_true rfl, rfl⟩ (fun _ _ => rfl)
theorem zs_30_84 : zrun zP sv C 30 84 [l0, l1, l2, l3, l4, l5, l6, l7] [.int x] h = some (.inl (some (.int x)), h) := zx_end rfl rfl
theorem zs_31_0 : zrun zP sv C 31 0 [l0, .val (.int x), l2] st h = zrun zP sv C 31 1 [l0, .val (.int x), l2] (.int x :: st) h := zx_go rfl rfl
theorem zs_31_1 : zrun zP sv C 31 1 [l0, l1, l2] [v0] h = zbk (C 72 [v0] h) (fun v h' => zrun zP sv C 31 4 [l0, l1, l2] (v.toList ++ []) h') (fun E h' => some (.inr E, h')) := zx_cs rfl rfl rfl rfl ⟨Nat.le_of_ble_eq_true rfl, rfl⟩ (fun _ _ => rfl)
theorem zs_31_4 : zrun zP sv C 31 4 [l0, l1, .val (.int x)] st h = zrun zP sv C 31 5 [l0, l1, .val (.int x)] (.int x :: st) h := zx_go rfl rfl
theorem zs_31_5 : zrun zP sv C 31 5 [l0, l1, l2] st h = zrun zP sv C 31 8 [l0, l1, l2] (.int (-999) :: st) h := zx_go rfl rfl
theorem zs_31_8 : zrun zP sv C 31 8 [l0, l1, l2] (.int y :: .int x :: st) h = if x < y then zrun zP sv C 31 18 [l0, l1, l2] st h else zrun zP sv C 31 11 [l0, l1, l2] st h := (zx_ic rfl rfl).trans zc2_if
theorem zs_31_11 : zrun zP sv C 31 11 [l0, l1, .val (.int x)] st h = zrun zP sv C 31 12 [l0, l1, .val (.int x)] (.int x :: st) h := zx_go rfl rfl
theorem zs_31_12 : zrun zP sv C 31 12 [l0, l1, l2] st h = zrun zP sv C 31 15 [l0, l1, l2] (.int (nI 999) :: st) h := zx_go rfl rfl
theorem zs_31_15 : zrun zP sv C 31 15 [l0, l1, l2] (.int y :: .int x :: st) h = if y < x then zrun zP sv C 31 18 [l0, l1, l2] st h else zrun zP sv C 31 28 [l0, l1, l2] st h := (zx_ic rfl rfl).trans zc5_if
theorem zs_31_18 : zrun zP sv C 31 18 [l0, l1, l2] [] h = some (.inr 1, znew h (0, []) 6) := zx_end rfl rfl
theorem zs_31_28 : zrun zP sv C 31 28 [.val (.ref a), l1, l2] st h = zrun zP sv C 31 29 [.val (.ref a), l1, l2] (.ref a :: st) h := zx_go rfl rfl
theorem zs_31_29 : zrun zP sv C 31 29 [l0, l1, l2] (.ref a :: st) h = zfld (h.1 a) 1 5 (fun v => zrun zP sv C 31 32 [l0, l1, l2] (v :: st) h) := zx_getf rfl rfl
theorem zs_31_32 : zrun zP sv C 31 32 [.val (.ref a), l1, l2] st h = zrun zP sv C 31 33 [.val (.ref a), l1, l2] (.ref a :: st) h := zx_go rfl rfl
theorem zs_31_33 : zrun zP sv C 31 33 [l0, l1, l2] (.ref a :: st) h = zfld (h.1 a) 1 2 (fun v => zrun zP sv C 31 36 [l0, l1, l2] (v :: st) h) := zx_getf rfl rfl
theorem zs_31_36 : zrun zP sv C 31 36 [l0, l1, l2] [v1, .ref b] h = zrc (h.1 b) 5 (zbk (C 132 [.ref b, v1] h) (fun v h' => zrun zP sv C 31 39 [l0, l1, l2] (v.toList ++ []) h') (fun E h' => some (.inr E, h'))) := zx_cv (x0 := 5) rfl rfl rfl rfl rfl ⟨Nat.le_of_ble_eq_true rfl, rfl⟩ (fun _ _ => rfl)
theorem zs_31_39 : zrun zP sv C 31 39 [.val (.ref a), l1, l2] st h = zrun zP sv C 31 40 [.val (.ref a), l1, l2] (.ref a :: st) h := zx_go rfl rfl
theorem zs_31_40 : zrun zP sv C 31 40 [l0, l1, l2] (.ref a :: st) h = zfld (h.1 a) 1 2 (fun v => zrun zP sv C 31 43 [l0, l1, l2] (v :: st) h) := zx_getf rfl rfl
theorem zs_31_43 : zrun zP sv C 31 43 [l0, .val (.int x), l2] st h = zrun zP sv C 31 44 [l0, .val (.int x), l2] (.int x :: st) h := zx_go rfl rfl
theorem zs_31_44 : zrun zP sv C 31 44 [l0, l1, .val (.int x)] st h = zrun zP sv C 31 45 [l0, l1, .val (.int x)] (.int x :: st) h := zx_go rfl rfl
theorem zs_31_45 : zrun zP sv C 31 45 [l0, l1, l2] [v2, v1, .ref b] h = zrc (h.1 b) 3 (zbk (C 178 [.ref b, v1, v2] h) (fun v h' => zrun zP sv C 31 48 [l0, l1, l2] (v.toList ++ []) h') (fun E h' => some (.inr E, h'))) := zx_cv (x0 := 3) rfl rfl rfl rfl rfl ⟨Nat.le_of_ble_eq_true rfl, rfl⟩ (fun _ _ => rfl)
theorem zs_31_48 : zrun zP sv C 31 48 [l0, l1, l2] [.int x] h = some (.inl (some (.int x)), h) := zx_end rfl rfl
theorem zs_32_0 : zrun zP sv C 32 0 [l0, .val (.int x)] st h = zrun zP sv C 32 1 [l0, .val (.int x)] (.int x :: st) h := zx_go rfl rfl
theorem zs_32_1 : zrun zP sv C 32 1 [l0, l1] st h = zrun zP sv C 32 2 [l0, l1] (.int (nI 1) :: st) h := zx_go rfl rfl
theorem zs_32_2 : zrun zP sv C 32 2 [l0, l1] (.int y :: .int x :: st) h = if x < y then zrun zP sv C 32 10 [l0, l1] st h else zrun zP sv C 32 5 [l0, l1] st h := (zx_ic rfl rfl).trans zc2_if
theorem zs_32_5 : zrun zP sv C 32 5 [l0, .val (.int x)] st h = zrun zP sv C 32 6 [l0, .val (.int x)] (.int x :: st) h := zx_go rfl rfl
theorem zs_32_6 : zrun zP sv C 32 6 [l0, l1] st h = zrun zP sv C 32 7 [l0, l1] (.int (nI 4) :: st) h := zx_go rfl rfl
theorem zs_32_7 : zrun zP sv C 32 7 [l0, l1] (.int y :: .int x :: st) h = if y < x then zrun zP sv C 32 10 [l0, l1] st h else zrun zP sv C 32 20 [l0, l1] st h := (zx_ic rfl rfl).trans zc5_if
theorem zs_32_10 : zrun zP sv C 32 10 [l0, l1] [] h = some (.inr 1, znew h (0, []) 6) := zx_end rfl rfl
theorem zs_32_20 : zrun zP sv C 32 20 [.val (.ref a), l1] st h = zrun zP sv C 32 21 [.val (.ref a), l1] (.ref a :: st) h := zx_go rfl rfl
theorem zs_32_21 : zrun zP sv C 32 21 [l0, l1] (.ref a :: st) h = zfld (h.1 a) 1 5 (fun v => zrun zP sv C 32 24 [l0, l1] (v :: st) h) := zx_getf rfl rfl
theorem zs_32_24 : zrun zP sv C 32 24 [.val (.ref a), l1] st h = zrun zP sv C 32 25 [.val (.ref a), l1] (.ref a :: st) h := zx_go rfl rfl
theorem zs_32_25 : zrun zP sv C 32 25 [l0, l1] (.ref a :: st) h = zfld (h.1 a) 1 2 (fun v => zrun zP sv C 32 28 [l0, l1] (v :: st) h) := zx_getf rfl rfl
theorem zs_32_28 : zrun zP sv C 32 28 [l0, l1] [v1, .ref b] h = zrc (h.1 b) 5 (zbk (C 132 [.ref b, v1] h) (fun v h' => zrun zP sv C 32 31 [l0, l1] (v.toList ++ []) h') (fun E h' => some (.inr E, h'))) := zx_cv (x0 := 5) rfl rfl rfl rfl rfl ⟨Nat.le_of_ble_eq_true rfl, rfl⟩ (fun _ _ => rfl)
theorem zs_32_31 : zrun zP sv C 32 31 [.val (.ref a), l1] st h = zrun zP sv C 32 32 [.val (.ref a), l1] (.ref a :: st) h := zx_go rfl rfl
theorem zs_32_32 : zrun zP sv C 32 32 [l0, l1] (.ref a :: st) h = zfld (h.1 a) 1 2 (fun v => zrun zP sv C 32 35 [l0, l1] (v :: st) h) := zx_getf rfl rfl
theorem zs_32_35 : zrun zP sv C 32 35 [l0, .val (.int x)] st h = zrun zP sv C 32 36 [l0, .val (.int x)] (.int x :: st) h := zx_go rfl rfl
theorem zs_32_36 : zrun zP sv C 32 36 [l0, l1] [v1, .ref b] h = zrc (h.1 b) 3 (zbk (C 179 [.ref b, v1] h) (fun v h' => zrun zP sv C 32 39 [l0, l1] (v.toList ++ []) h') (fun E h' => some (.inr E, h'))) := zx_cv (x0 := 3) rfl rfl rfl rfl rfl ⟨Nat.le_of_ble_eq_true rfl, rfl⟩ (fun _ _ => rfl)
theorem zs_32_39 : zrun zP sv C 32 39 [l0, l1] [.int x] h = some (.inl (some (.int x)), h) := zx_end rfl rfl
theorem zs_33_0 : zrun zP sv C 33 0 [.val (.ref a)] st h = zrun zP sv C 33 1 [.val (.ref a)] (.ref a :: st) h := zx_go rfl rfl
theorem zs_33_1 : zrun zP sv C 33 1 [l0] (.ref a :: st) h = zfld (h.1 a) 1 2 (fun v => zrun zP sv C 33 4 [l0] (v :: st) h) := zx_getf rfl rfl
theorem zs_33_4 : zrun zP sv C 33 4 [l0] [.ref b] h = zrc (h.1 b) 3 (zbk (C 169 [.ref b] h) (fun v h' => zrun zP sv C 33 7 [l0] (v.toList ++ []) h') (fun E h' => some (.inr E, h'))) := zx_cv (x0 := 3) rfl rfl rfl rfl rfl ⟨Nat.le_of_ble_eq_true rfl, rfl⟩ (fun _ _ => rfl)
theorem zs_33_7 : zrun zP sv C 33 7 [l0] [.int x] h = some (.inl (some (.int x)), h) := zx_end rfl rfl
theorem zs_34_0 : zrun zP sv C 34 0 [l0, .val (.int x)] st h = zrun zP sv C 34 1 [l0, .val (.int x)] (.int x :: st) h := zx_go rfl rfl
theorem zs_34_1 : zrun zP sv C 34 1 [l0, l1] [v0] h = zbk (C 72 [v0] h) (fun v h' => zrun zP sv C 34 4 [l0, l1] (v.toList ++ []) h') (fun E h' => some (.inr E, h')) := zx_cs rfl rfl rfl rfl ⟨Nat.le_of_ble_eq_true rfl, rfl⟩ (fun _ _ => rfl)
theorem zs_34_4 : zrun zP sv C 34 4 [.val (.ref a), l1] st h = zrun zP sv C 34 5 [.val (.ref a), l1] (.ref a :: st) h := zx_go rfl rfl
theorem zs_34_5 : zrun zP sv C 34 5 [l0, l1] (.ref a :: st) h = zfld (h.1 a) 1 2 (fun v => zrun zP sv C 34 8 [l0, l1] (v :: st) h) := zx_getf rfl rfl
theorem zs_34_8 : zrun zP sv C 34 8 [l0, l1] [.ref b] h = zrc (h.1 b) 3 (zbk (C 170 [.ref b] h) (fun v h' => zrun zP sv C 34 11 [l0, l1] (v.toList ++ []) h') (fun E h' => some (.inr E, h'))) := zx_cv (x0 := 3) rfl rfl rfl rfl rfl ⟨Nat.le_of_ble_eq_true rfl, rfl⟩ (fun _ _ => rfl)
theorem zs_34_11 : zrun zP sv C 34 11 [l0, .val (.int x)] st h = zrun zP sv C 34 12 [l0, .val (.int x)] (.int x :: st) h := zx_go rfl rfl
theorem zs_34_12 : zrun zP sv C 34 12 [l0, l1] st h = zrun zP sv C 34 14 [l0, l1] (.int (nI 97) :: st) h := zx_go rfl rfl
theorem zs_34_14 : zrun zP sv C 34 14 [l0, l1] (.int y :: .int x :: st) h = zrun zP sv C 34 15 [l0, l1] (.int (x - y) :: st) h := zx_go rfl rfl
theorem zs_34_15 : zrun zP sv C 34 15 [l0, l1] [v1, .ref b] h = zrc (h.1 b) 4 (zbk (C 165 [.ref b, v1] h) (fun v h' => zrun zP sv C 34 18 [l0, l1] (v.toList ++ []) h') (fun E h' => some (.inr E, h'))) := zx_cv (x0 := 4) rfl rfl rfl rfl rfl ⟨Nat.le_of_ble_eq_true rfl, rfl⟩ (fun _ _ => rfl)
theorem zs_34_18 : zrun zP sv C 34 18 [l0, l1] [.int x] h = some (.inl (some (.int x)), h) := zx_end rfl rfl
theorem zs_35_0 : zrun zP sv C 35 0 [.val (.ref a)] st h = zrun zP sv C 35 1 [.val (.ref a)] (.ref a :: st) h := zx_go rfl rfl
theorem zs_35_1 : zrun zP sv C 35 1 [l0] (.ref a :: st) h = zfld (h.1 a) 1 2 (fun v => zrun zP sv C 35 4 [l0] (v :: st) h) := zx_getf rfl rfl
theorem zs_35_4 : zrun zP sv C 35 4 [l0] [.ref b] h = zrc (h.1 b) 3 (zbk (C 171 [.ref b] h) (fun v h' => zrun zP sv C 35 7 [l0] (v.toList ++ []) h') (fun E h' => some (.inr E, h'))) := zx_cv (x0 := 3) rfl rfl rfl rfl rfl ⟨Nat.le_of_ble_eq_true rfl, rfl⟩ (fun _ _ => rfl)
theorem zs_35_7 : zrun zP sv C 35 7 [l0] [.int x] h = some (.inl (some (.int x)), h) := zx_end rfl rfl
theorem zs_36_0 : zrun zP sv C 36 0 [.val (.ref a), l1] st h = zrun zP sv C 36 1 [.val (.ref a), l1] (.ref a :: st) h := zx_go rfl rfl
theorem zs_36_1 : zrun zP sv C 36 1 [l0, .val (.int x)] st h = zrun zP sv C 36 2 [l0, .val (.int x)] (.int x :: st) h := zx_go rfl rfl
theorem zs_36_2 : zrun zP sv C 36 2 [l0, l1] [v1, .ref b] h = zrc (h.1 b) 1 (zbk (C 70 [.ref b, v1] h) (fun v h' => zrun zP sv C 36 5 [l0, l1] (v.toList ++ []) h') (fun E h' => some (.inr E, h'))) := zx_cv (x0 := 1) rfl rfl rfl rfl rfl ⟨Nat.le_of_ble_eq_true rfl, rfl⟩ (fun _ _ => rfl)
theorem zs_36_5 : zrun zP sv C 36 5 [l0, l1] [.ref b] h = zrc (h.1 b) 6 (zbk (C 182 [.ref b] h) (fun v h' => zrun zP sv C 36 8 [l0, l1] (v.toList ++ []) h') (fun E h' => some (.inr E, h'))) := zx_cv (x0 := 6) rfl rfl rfl rfl rfl ⟨Nat.le_of_ble_eq_true rfl, rfl⟩ (fun _ _ => rfl)
theorem zs_36_8 : zrun zP sv C 36 8 [l0, l1] [.int x] h = some (.inl (some (.int x)), h) := zx_end rfl rfl
theorem zs_37_0 : zrun zP sv C 37 0 [.val (.ref a), l1, l2] st h = zrun zP sv C 37 1 [.val (.ref a), l1, l2] (.ref a :: st) h := zx_go rfl rfl
theorem zs_37_1 : zrun zP sv C 37 1 [l0, .val (.int x), l2] st h = zrun zP sv C 37 2 [l0, .val (.int x), l2] (.int x :: st) h := zx_go rfl rfl
theorem zs_37_2 : zrun zP sv C 37 2 [l0, l1, l2] [v1, .ref b] h = zrc (h.1 b) 1 (zbk (C 70 [.ref b, v1] h) (fun v h' => zrun zP sv C 37 5 [l0, l1, l2] (v.toList ++ []) h') (fun E h' => some (.inr E, h'))) := zx_cv (x0 := 1) rfl rfl rfl rfl rfl ⟨Nat.le_of_ble_eq_true rfl, rfl⟩ (fun _ _ => rfl)
theorem zs_37_5 (hs : znw l2 = true) : zrun zP sv C 37 5 [l0, l1, l2] (.ref a :: st) h = zrun zP sv C 37 6 [l0, l1, .val (.ref a)] st h := zx_st hs rfl rfl rfl rfl rfl rfl
theorem zs_37_6 : zrun zP sv C 37 6 [.val (.ref a), l1, l2] st h = zrun zP sv C 37 7 [.val (.ref a), l1, l2] (.ref a :: st) h := zx_go rfl rfl
theorem zs_37_7 : zrun zP sv C 37 7 [l0, l1, l2] (.ref a :: st) h = zfld (h.1 a) 1 10 (fun v => zrun zP sv C 37 10 [l0, l1, l2] (v :: st) h) := zx_getf rfl rfl
theorem zs_37_10 : zrun zP sv C 37 10 [l0, l1, .val (.ref a)] st h = zrun zP sv C 37 11 [l0, l1, .val (.ref a)] (.ref a :: st) h := zx_go rfl rfl
theorem zs_37_11 : zrun zP sv C 37 11 [l0, l1, .val (.ref a)] st h = zrun zP sv C 37 12 [l0, l1, .val (.ref a)] (.ref a :: st) h := zx_go rfl rfl
theorem zs_37_12 : zrun zP sv C 37 12 [l0, l1, l2] [.ref b, r0, r1] h = zrc (h.1 b) 6 (zbk (C 183 [.ref b] h) (fun v h' => zrun zP sv C 37 15 [l0, l1, l2] (v.toList ++ [r0, r1]) h') (fun E h' => some (.inr E, h'))) := zx_cv (x0 := 6) rfl rfl rfl rfl rfl ⟨Nat.le_of_ble_eq_true rfl, rfl⟩ (fun _ _ => rfl)
theorem zs_37_15 : zrun zP sv C 37 15 [l0, l1, l2] [v2, v1, .ref b] h = zrc (h.1 b) 10 (zbk (C 118 [.ref b, v1, v2] h) (fun v h' => zrun zP sv C 37 18 [l0, l1, l2] (v.toList ++ []) h') (fun E h' => some (.inr E, h'))) := zx_cv (x0 := 10) rfl rfl rfl rfl rfl ⟨Nat.le_of_ble_eq_true rfl, rfl⟩ (fun _ _ => rfl)
theorem zs_37_18 : zrun zP sv C 37 18 [l0, l1, l2] [.int x] h = some (.inl (some (.int x)), h) := zx_end rfl rfl
theorem zs_38_0 : zrun zP sv C 38 0 [.val (.ref a), l1, l2, l3, l4, l5] st h = zrun zP sv C 38 1 [.val (.ref a), l1, l2, l3, l4, l5] (.ref a :: st) h := zx_go rfl rfl
theorem zs_38_1 : zrun zP sv C 38 1 [l0, .val (.int x), l2, l3, l4, l5] st h = zrun zP sv C 38 2 [l0, .val (.int x), l2, l3, l4, l5] (.int x :: st) h := zx_go rfl rfl
theorem zs_38_2 : zrun zP sv C 38 2 [l0, l1, l2, l3, l4, l5] [v1, .ref b] h = zrc (h.1 b) 1 (zbk (C 70 [.ref b, v1] h) (fun v h' => zrun zP sv C 38 5 [l0, l1, l2, l3, l4, l5] (v.toList ++ []) h') (fun E h' => some (.inr E, h'))) := zx_cv (x0 := 1) rfl rfl rfl rfl rfl ⟨Nat.le_of_ble_eq_true rfl, rfl⟩ (fun _ _ => rfl)
theorem zs_38_5 (hs : znw l3 = true) : zrun zP sv C 38 5 [l0, l1, l2, l3, l4, l5] (.ref a :: st) h = zrun zP sv C 38 6 [l0, l1, l2, .val (.ref a), l4, l5] st h := zx_st hs rfl rfl rfl rfl rfl rfl
theorem zs_38_6 : zrun zP sv C 38 6 [l0, l1, .val (.int x), l3, l4, l5] st h = zrun zP sv C 38 7 [l0, l1, .val (.int x), l3, l4, l5] (.int x :: st) h := zx_go rfl rfl
theorem zs_38_7 : zrun zP sv C 38 7 [l0, l1, l2, l3, l4, l5] [v0] h = zbk (C 72 [v0] h) (fun v h' => zrun zP sv C 38 10 [l0, l1, l2, l3, l4, l5] (v.toList ++ []) h') (fun E h' => some (.inr E, h')) := zx_cs rfl rfl rfl rfl ⟨Nat.le_of_ble_eq_true rfl, rfl⟩ (fun _ _ => rfl)
theorem zs_38_10 : zrun zP sv C 38 10 [l0, l1, l2, l3, l4, l5] st h = zrun zP sv C 38 11 [l0, l1, l2, l3, l4, l5] (.int 0 :: st) h := zx_go rfl rfl
theorem zs_38_11 (hs : znw l4 = true) : zrun zP sv C 38 11 [l0, l1, l2, l3, l4, l5] (.int x :: st) h = zrun zP sv C 38 13 [l0, l1, l2, l3, .val (.int x), l5] st h := zx_st hs rfl rfl rfl rfl rfl rfl
theorem zs_38_13 : zrun zP sv C 38 13 [l0, l1, l2, l3, l4, l5] st h = zrun zP sv C 38 14 [l0, l1, l2, l3, l4, l5] (.int 0 :: st) h := zx_go rfl rfl
theorem zs_38_14 (hs : znw l5 = true) : zrun zP sv C 38 14 [l0, l1, l2, l3, l4, l5] (.int x :: st) h = zrun zP sv C 38 16 [l0, l1, l2, l3, l4, .val (.int x)] st h := zx_st hs rfl rfl rfl rfl rfl rfl
theorem zs_38_16 : zrun zP sv C 38 16 [l0, l1, l2, l3, l4, .val (.int x)] st h = zrun zP sv C 38 18 [l0, l1, l2, l3, l4, .val (.int x)] (.int x :: st) h := zx_go rfl rfl
theorem zs_38_18 : zrun zP sv C 38 18 [l0, l1, l2, .val (.ref a), l4, l5] st h = zrun zP sv C 38 19 [l0, l1, l2, .val (.ref a), l4, l5] (.ref a :: st) h := zx_go rfl rfl
theorem zs_38_19 : zrun zP sv C 38 19 [l0, l1, l2, l3, l4, l5] [.ref b, r0] h = zrc (h.1 b) 6 (zbk (C 182 [.ref b] h) (fun v h' => zrun zP sv C 38 22 [l0, l1, l2, l3, l4, l5] (v.toList ++ [r0]) h') (fun E h' => some (.inr E, h'))) := zx_cv (x0 := 6) rfl rfl rfl rfl rfl ⟨Nat.le_of_ble_eq_true rfl, rfl⟩ (fun _ _ => rfl)
theorem zs_38_22 : zrun zP sv C 38 22 [l0, l1, l2, l3, l4, l5] (.int y :: .int x :: st) h = if x < y then zrun zP sv C 38 25 [l0, l1, l2, l3, l4, l5] st h else zrun zP sv C 38 44 [l0, l1, l2, l3, l4, l5] st h := (zx_ic rfl rfl).trans zc3_if
theorem zs_38_25 : zrun zP sv C 38 25 [l0, l1, l2, .val (.ref a), l4, l5] st h = zrun zP sv C 38 26 [l0, l1, l2, .val (.ref a), l4, l5] (.ref a :: st) h := zx_go rfl rfl
theorem zs_38_26 : zrun zP sv C 38 26 [l0, l1, l2, l3, l4, .val (.int x)] st h = zrun zP sv C 38 28 [l0, l1, l2, l3, l4, .val (.int x)] (.int x :: st) h := zx_go rfl rfl
theorem zs_38_28 : zrun zP sv C 38 28 [l0, l1, .val (.int x), l3, l4, l5] st h = zrun zP sv C 38 29 [l0, l1, .val (.int x), l3, l4, l5] (.int x :: st) h := zx_go rfl rfl
theorem zs_38_29 : zrun zP sv C 38 29 [l0, l1, l2, l3, l4, l5] [v2, v1, .ref b] h = zrc (h.1 b) 6 (zbk (C 188 [.ref b, v1, v2] h) (fun v h' => zrun zP sv C 38 32 [l0, l1, l2, l3, l4, l5] (v.toList ++ []) h') (fun E h' => some (.inr E, h'))) := zx_cv (x0 := 6) rfl rfl rfl rfl rfl ⟨Nat.le_of_ble_eq_true rfl, rfl⟩ (fun _ _ => rfl)
theorem zs_38_32 : zrun zP sv C 38 32 [l0, l1, l2, l3, l4, l5] (.int x :: st) h = if x = 0 then zrun zP sv C 38 38 [l0, l1, l2, l3, l4, l5] st h else zrun zP sv C 38 35 [l0, l1, l2, l3, l4, l5] st h := (zx_if rfl rfl).trans zc0_if
theorem zs_38_35 : zrun zP sv C 38 35 [l0, l1, l2, l3, .val (.int x), l5] st h = zrun zP sv C 38 38 [l0, l1, l2, l3, .val (.int (x + (nI 1))), l5] st h := zx_ii rfl rfl rfl rfl rfl
theorem zs_38_38 : zrun zP sv C 38 38 [l0, l1, l2, l3, l4, .val (.int x)] st h = zrun zP sv C 38 41 [l0, l1, l2, l3, l4, .val (.int (x + (nI 1)))] st h := zx_ii rfl rfl rfl rfl rfl
theorem zs_38_41 : zrun zP sv C 38 41 [l0, l1, l2, l3, l4, l5] st h = zrun zP sv C 38 16 [l0, l1, l2, l3, l4, l5] st h := zx_go rfl rfl
theorem zs_38_44 : zrun zP sv C 38 44 [l0, l1, l2, l3, .val (.int x), l5] st h = zrun zP sv C 38 46 [l0, l1, l2, l3, .val (.int x), l5] (.int x :: st) h := zx_go rfl rfl
theorem zs_38_46 : zrun zP sv C 38 46 [l0, l1, l2, l3, l4, l5] [.int x] h = some (.inl (some (.int x)), h) := zx_end rfl rfl
theorem zs_39_0 : zrun zP sv C 39 0 [.val (.ref a), l1] st h = zrun zP sv C 39 1 [.val (.ref a), l1] (.ref a :: st) h := zx_go rfl rfl
theorem zs_39_1 : zrun zP sv C 39 1 [l0, l1] (.ref a :: st) h = zfld (h.1 a) 1 10 (fun v => zrun zP sv C 39 4 [l0, l1] (v :: st) h) := zx_getf rfl rfl
theorem zs_39_4 : zrun zP sv C 39 4 [.val (.ref a), l1] st h = zrun zP sv C 39 5 [.val (.ref a), l1] (.ref a :: st) h := zx_go rfl rfl
theorem zs_39_5 : zrun zP sv C 39 5 [l0, .val (.int x)] st h = zrun zP sv C 39 6 [l0, .val (.int x)] (.int x :: st) h := zx_go rfl rfl
theorem zs_39_6 : zrun zP sv C 39 6 [l0, l1] [v1, .ref b, r0] h = zrc (h.1 b) 1 (zbk (C 70 [.ref b, v1] h) (fun v h' => zrun zP sv C 39 9 [l0, l1] (v.toList ++ [r0]) h') (fun E h' => some (.inr E, h'))) := zx_cv (x0 := 1) rfl rfl rfl rfl rfl ⟨Nat.le_of_ble_eq_true rfl, rfl⟩ (fun _ _ => rfl)
theorem zs_39_9 : zrun zP sv C 39 9 [l0, l1] [v1, .ref b] h = zrc (h.1 b) 10 (zbk (C 119 [.ref b, v1] h) (fun v h' => zrun zP sv C 39 12 [l0, l1] (v.toList ++ []) h') (fun E h' => some (.inr E, h'))) := zx_cv (x0 := 10) rfl rfl rfl rfl rfl ⟨Nat.le_of_ble_eq_true rfl, rfl⟩ (fun _ _ => rfl)
theorem zs_39_12 : zrun zP sv C 39 12 [l0, l1] [.int x] h = some (.inl (some (.int x)), h) := zx_end rfl rfl
theorem zs_40_0 : zrun zP sv C 40 0 [.val (.ref a), l1, l2, l3] st h = zrun zP sv C 40 1 [.val (.ref a), l1, l2, l3] (.ref a :: st) h := zx_go rfl rfl
theorem zs_40_1 : zrun zP sv C 40 1 [l0, .val (.int x), l2, l3] st h = zrun zP sv C 40 2 [l0, .val (.int x), l2, l3] (.int x :: st) h := zx_go rfl rfl
theorem zs_40_2 : zrun zP sv C 40 2 [l0, l1, l2, l3] [v1, .ref b] h = zrc (h.1 b) 1 (zbk (C 70 [.ref b, v1] h) (fun v h' => zrun zP sv C 40 5 [l0, l1, l2, l3] (v.toList ++ []) h') (fun E h' => some (.inr E, h'))) := zx_cv (x0 := 1) rfl rfl rfl rfl rfl ⟨Nat.le_of_ble_eq_true rfl, rfl⟩ (fun _ _ => rfl)
theorem zs_40_5 (hs : znw l2 = true) : zrun zP sv C 40 5 [l0, l1, l2, l3] (.ref a :: st) h = zrun zP sv C 40 6 [l0, l1, .val (.ref a), l3] st h := zx_st hs rfl rfl rfl rfl rfl rfl
theorem zs_40_6 : zrun zP sv C 40 6 [l0, l1, l2, l3] st h = zrun zP sv C 40 7 [l0, l1, l2, l3] (.int 0 :: st) h := zx_go rfl rfl
theorem zs_40_7 (hs : znw l3 = true) : zrun zP sv C 40 7 [l0, l1, l2, l3] (.int x :: st) h = zrun zP sv C 40 8 [l0, l1, l2, .val (.int x)] st h := zx_st hs rfl rfl rfl rfl rfl rfl
theorem zs_40_8 : zrun zP sv C 40 8 [l0, l1, l2, .val (.int x)] st h = zrun zP sv C 40 9 [l0, l1, l2, .val (.int x)] (.int x :: st) h := zx_go rfl rfl
theorem zs_40_9 : zrun zP sv C 40 9 [l0, l1, .val (.ref a), l3] st h = zrun zP sv C 40 10 [l0, l1, .val (.ref a), l3] (.ref a :: st) h := zx_go rfl rfl
theorem zs_40_10 : zrun zP sv C 40 10 [l0, l1, l2, l3] [.ref b, r0] h = zrc (h.1 b) 6 (zbk (C 182 [.ref b] h) (fun v h' => zrun zP sv C 40 13 [l0, l1, l2, l3] (v.toList ++ [r0]) h') (fun E h' => some (.inr E, h'))) := zx_cv (x0 := 6) rfl rfl rfl rfl rfl ⟨Nat.le_of_ble_eq_true rfl, rfl⟩ (fun _ _ => rfl)
theorem zs_40_13 : zrun zP sv C 40 13 [l0, l1, l2, l3] (.int y :: .int x :: st) h = if x < y then zrun zP sv C 40 16 [l0, l1, l2, l3] st h else zrun zP sv C 40 34 [l0, l1, l2, l3] st h := (zx_ic rfl rfl).trans zc3_if
theorem zs_40_16 : zrun zP sv C 40 16 [l0, l1, .val (.ref a), l3] st h = zrun zP sv C 40 17 [l0, l1, .val (.ref a), l3] (.ref a :: st) h := zx_go rfl rfl
theorem zs_40_17 : zrun zP sv C 40 17 [l0, l1, l2, .val (.int x)] st h = zrun zP sv C 40 18 [l0, l1, l2, .val (.int x)] (.int x :: st) h := zx_go rfl rfl
theorem zs_40_18 : zrun zP sv C 40 18 [l0, l1, l2, l3] [v1, .ref b] h = zrc (h.1 b) 6 (zbk (C 184 [.ref b, v1] h) (fun v h' => zrun zP sv C 40 21 [l0, l1, l2, l3] (v.toList ++ []) h') (fun E h' => some (.inr E, h'))) := zx_cv (x0 := 6) rfl rfl rfl rfl rfl ⟨Nat.le_of_ble_eq_true rfl, rfl⟩ (fun _ _ => rfl)
theorem zs_40_21 : zrun zP sv C 40 21 [l0, l1, l2, l3] st h = zrun zP sv C 40 23 [l0, l1, l2, l3] (.int (nI 118) :: st) h := zx_go rfl rfl
theorem zs_40_23 : zrun zP sv C 40 23 [l0, l1, l2, l3] (.int y :: .int x :: st) h = if x = y then zrun zP sv C 40 26 [l0, l1, l2, l3] st h else zrun zP sv C 40 28 [l0, l1, l2, l3] st h := (zx_ic rfl rfl).trans zc1_if
theorem zs_40_26 : zrun zP sv C 40 26 [l0, l1, l2, l3] st h = zrun zP sv C 40 27 [l0, l1, l2, l3] (.int 0 :: st) h := zx_go rfl rfl
theorem zs_40_27 : zrun zP sv C 40 27 [l0, l1, l2, l3] [.int x] h = zgd (zty 5 (.int x)) (some (.inl (some (.int x)), h)) := zx_rt rfl
theorem zs_40_28 : zrun zP sv C 40 28 [l0, l1, l2, .val (.int x)] st h = zrun zP sv C 40 31 [l0, l1, l2, .val (.int (x + (nI 1)))] st h := zx_ii rfl rfl rfl rfl rfl
theorem zs_40_31 : zrun zP sv C 40 31 [l0, l1, l2, l3] st h = zrun zP sv C 40 8 [l0, l1, l2, l3] st h := zx_go rfl rfl
theorem zs_40_34 : zrun zP sv C 40 34 [l0, l1, l2, l3] st h = zrun zP sv C 40 35 [l0, l1, l2, l3] (.int (nI 1) :: st) h := zx_go rfl rfl
theorem zs_40_35 : zrun zP sv C 40 35 [l0, l1, l2, l3] [.int x] h = zgd (zty 5 (.int x)) (some (.inl (some (.int x)), h)) := zx_rt rfl
theorem zs_41_0 : zrun zP sv C 41 0 [.val (.ref a), l1, l2, l3, l4] st h = zrun zP sv C 41 1 [.val (.ref a), l1, l2, l3, l4] (.ref a :: st) h := zx_go rfl rfl
theorem zs_41_1 : zrun zP sv C 41 1 [l0, .val (.int x), l2, l3, l4] st h = zrun zP sv C 41 2 [l0, .val (.int x), l2, l3, l4] (.int x :: st) h := zx_go rfl rfl
theorem zs_41_2 : zrun zP sv C 41 2 [l0, l1, l2, l3, l4] [v1, .ref b] h = zrc (h.1 b) 1 (zbk (C 70 [.ref b, v1] h) (fun v h' => zrun zP sv C 41 5 [l0, l1, l2, l3, l4] (v.toList ++ []) h') (fun E h' => some (.inr E, h'))) := zx_cv (x0 := 1) rfl rfl rfl rfl rfl ⟨Nat.le_of_ble_eq_true rfl, rfl⟩ (fun _ _ => rfl)
theorem zs_41_5 (hs : znw l3 = true) : zrun zP sv C 41 5 [l0, l1, l2, l3, l4] (.ref a :: st) h = zrun zP sv C 41 6 [l0, l1, l2, .val (.ref a), l4] st h := zx_st hs rfl rfl rfl rfl rfl rfl
theorem zs_41_6 : zrun zP sv C 41 6 [.val (.ref a), l1, l2, l3, l4] st h = zrun zP sv C 41 7 [.val (.ref a), l1, l2, l3, l4] (.ref a :: st) h := zx_go rfl rfl
theorem zs_41_7 : zrun zP sv C 41 7 [l0, l1, .val (.int x), l3, l4] st h = zrun zP sv C 41 8 [l0, l1, .val (.int x), l3, l4] (.int x :: st) h := zx_go rfl rfl
theorem zs_41_8 : zrun zP sv C 41 8 [l0, l1, l2, l3, l4] [v1, .ref b] h = zrc (h.1 b) 1 (zbk (C 70 [.ref b, v1] h) (fun v h' => zrun zP sv C 41 11 [l0, l1, l2, l3, l4] (v.toList ++ []) h') (fun E h' => some (.inr E, h'))) := zx_cv (x0 := 1) rfl rfl rfl rfl rfl ⟨Nat.le_of_ble_eq_true rfl, rfl⟩ (fun _ _ => rfl)
theorem zs_41_11 (hs : znw l4 = true) : zrun zP sv C 41 11 [l0, l1, l2, l3, l4] (.ref a :: st) h = zrun zP sv C 41 13 [l0, l1, l2, l3, .val (.ref a)] st h := zx_st hs rfl rfl rfl rfl rfl rfl
theorem zs_41_13 : zrun zP sv C 41 13 [l0, l1, l2, .val (.ref a), l4] st h = zrun zP sv C 41 14 [l0, l1, l2, .val (.ref a), l4] (.ref a :: st) h := zx_go rfl rfl
theorem zs_41_14 : zrun zP sv C 41 14 [l0, l1, l2, .val (.ref a), l4] st h = zrun zP sv C 41 15 [l0, l1, l2, .val (.ref a), l4] (.ref a :: st) h := zx_go rfl rfl
theorem zs_41_15 : zrun zP sv C 41 15 [l0, l1, l2, l3, l4] [.ref b, r0] h = zrc (h.1 b) 6 (zbk (C 183 [.ref b] h) (fun v h' => zrun zP sv C 41 18 [l0, l1, l2, l3, l4] (v.toList ++ [r0]) h') (fun E h' => some (.inr E, h'))) := zx_cv (x0 := 6) rfl rfl rfl rfl rfl ⟨Nat.le_of_ble_eq_true rfl, rfl⟩ (fun _ _ => rfl)
theorem zs_41_18 : zrun zP sv C 41 18 [l0, l1, l2, l3, .val (.ref a)] st h = zrun zP sv C 41 20 [l0, l1, l2, l3, .val (.ref a)] (.ref a :: st) h := zx_go rfl rfl
theorem zs_41_20 : zrun zP sv C 41 20 [l0, l1, l2, l3, .val (.ref a)] st h = zrun zP sv C 41 22 [l0, l1, l2, l3, .val (.ref a)] (.ref a :: st) h := zx_go rfl rfl
theorem zs_41_22 : zrun zP sv C 41 22 [l0, l1, l2, l3, l4] [.ref b, r0, r1, r2] h = zrc (h.1 b) 6 (zbk (C 183 [.ref b] h) (fun v h' => zrun zP sv C 41 25 [l0, l1, l2, l3, l4] (v.toList ++ [r0, r1, r2]) h') (fun E h' => some (.inr E, h'))) := zx_cv (x0 := 6) rfl rfl rfl rfl rfl ⟨Nat.le_of_ble_eq_true rfl, rfl⟩ (fun _ _ => rfl)
theorem zs_41_25 : zrun zP sv C 41 25 [l0, l1, l2, l3, l4] st h = zrun zP sv C 41 26 [l0, l1, l2, l3, l4] (.int (nI 1) :: st) h := zx_go rfl rfl
theorem zs_41_26 : zrun zP sv C 41 26 [l0, l1, l2, l3, l4] [v4, v3, v2, v1, v0] h = zbk (C 85 [v0, v1, v2, v3, v4] h) (fun v h' => zrun zP sv C 41 29 [l0, l1, l2, l3, l4] (v.toList ++ []) h') (fun E h' => some (.inr E, h')) := zx_cs rfl rfl rfl rfl ⟨Nat.le_of_ble_eq_true rfl, rfl⟩ (fun _ _ => rfl)
theorem zs_41_29 : zrun zP sv C 41 29 [l0, l1, l2, l3, l4] [.int x] h = zgd (zty 5 (.int x)) (some (.inl (some (.int x)), h)) := zx_rt rfl
theorem zs_42_0 : zrun zP sv C 42 0 [.val (.ref a), l1] st h = zrun zP sv C 42 1 [.val (.ref a), l1] (.ref a :: st) h := zx_go rfl rfl
theorem zs_42_1 : zrun zP sv C 42 1 [.val (.ref a), l1] st h = zrun zP sv C 42 2 [.val (.ref a), l1] (.ref a :: st) h := zx_go rfl rfl
theorem zs_42_2 : zrun zP sv C 42 2 [l0, .val (.int x)] st h = zrun zP sv C 42 3 [l0, .val (.int x)] (.int x :: st) h := zx_go rfl rfl
theorem zs_42_3 : zrun zP sv C 42 3 [l0, l1] [v1, .ref b, r0] h = zrc (h.1 b) 1 (zbk (C 70 [.ref b, v1] h) (fun v h' => zrun zP sv C 42 6 [l0, l1] (v.toList ++ [r0]) h') (fun E h' => some (.inr E, h'))) := zx_cv (x0 := 1) rfl rfl rfl rfl rfl ⟨Nat.le_of_ble_eq_true rfl, rfl⟩ (fun _ _ => rfl)
theorem zs_42_6 : zrun zP sv C 42 6 [l0, l1] [v1, .ref b] h = zrc (h.1 b) 1 (zbk (C 77 [.ref b, v1] h) (fun v h' => zrun zP sv C 42 9 [l0, l1] (v.toList ++ []) h') (fun E h' => some (.inr E, h'))) := zx_cv (x0 := 1) rfl rfl rfl rfl rfl ⟨Nat.le_of_ble_eq_true rfl, rfl⟩ (fun _ _ => rfl)
theorem zs_42_9 : zrun zP sv C 42 9 [l0, l1] [.int x] h = some (.inl (some (.int x)), h) := zx_end rfl rfl
theorem zs_43_0 : zrun zP sv C 43 0 [.val (.ref a), l1] st h = zrun zP sv C 43 1 [.val (.ref a), l1] (.ref a :: st) h := zx_go rfl rfl
theorem zs_43_1 : zrun zP sv C 43 1 [l0, .val (.int x)] st h = zrun zP sv C 43 2 [l0, .val (.int x)] (.int x :: st) h := zx_go rfl rfl
theorem zs_43_2 : zrun zP sv C 43 2 [l0, l1] [v1, .ref b] h = zrc (h.1 b) 1 (zbk (C 70 [.ref b, v1] h) (fun v h' => zrun zP sv C 43 5 [l0, l1] (v.toList ++ []) h') (fun E h' => some (.inr E, h'))) := zx_cv (x0 := 1) rfl rfl rfl rfl rfl ⟨Nat.le_of_ble_eq_true rfl, rfl⟩ (fun _ _ => rfl)
theorem zs_43_5 : zrun zP sv C 43 5 [l0, l1] [v0] h = zbk (C 78 [v0] h) (fun v h' => zrun zP sv C 43 8 [l0, l1] (v.toList ++ []) h') (fun E h' => some (.inr E, h')) := zx_cs rfl rfl rfl rfl ⟨Nat.le_of_ble_eq_true rfl, rfl⟩ (fun _ _ => rfl)
theorem zs_43_8 : zrun zP sv C 43 8 [l0, l1] [.int x] h = some (.inl (some (.int x)), h) := zx_end rfl rfl
theorem zs_44_0 : zrun zP sv C 44 0 [.val (.ref a), l1, l2, l3, l4, l5, l6] st h = zrun zP sv C 44 1 [.val (.ref a), l1, l2, l3, l4, l5, l6] (.ref a :: st) h := zx_go rfl rfl
theorem zs_44_1 : zrun zP sv C 44 1 [l0, .val (.int x), l2, l3, l4, l5, l6] st h = zrun zP sv C 44 2 [l0, .val (.int x), l2, l3, l4, l5, l6] (.int x :: st) h := zx_go rfl rfl
theorem zs_44_2 : zrun zP sv C 44 2 [l0, l1, l2, l3, l4, l5, l6] [v1, .ref b] h = zrc (h.1 b) 1 (zbk (C 70 [.ref b, v1] h) (fun v h' => zrun zP sv C 44 5 [l0, l1, l2, l3, l4, l5, l6] (v.toList ++ []) h') (fun E h' => some (.inr E, h'))) := zx_cv (x0 := 1) rfl rfl rfl rfl rfl ⟨Nat.le_of_ble_eq_true rfl, rfl⟩ (fun _ _ => rfl)
theorem zs_44_5 (hs : znw l3 = true) : zrun zP sv C 44 5 [l0, l1, l2, l3, l4, l5, l6] (.ref a :: st) h = zrun zP sv C 44 6 [l0, l1, l2, .val (.ref a), l4, l5, l6] st h := zx_st hs rfl rfl rfl rfl rfl rfl
theorem zs_44_6 : zrun zP sv C 44 6 [.val (.ref a), l1, l2, l3, l4, l5, l6] st h = zrun zP sv C 44 7 [.val (.ref a), l1, l2, l3, l4, l5, l6] (.ref a :: st) h := zx_go rfl rfl
theorem zs_44_7 : zrun zP sv C 44 7 [l0, l1, .val (.int x), l3, l4, l5, l6] st h = zrun zP sv C 44 8 [l0, l1, .val (.int x), l3, l4, l5, l6] (.int x :: st) h := zx_go rfl rfl
theorem zs_44_8 : zrun zP sv C 44 8 [l0, l1, l2, l3, l4, l5, l6] [v1, .ref b] h = zrc (h.1 b) 1 (zbk (C 70 [.ref b, v1] h) (fun v h' => zrun zP sv C 44 11 [l0, l1, l2, l3, l4, l5, l6] (v.toList ++ []) h') (fun E h' => some (.inr E, h'))) := zx_cv (x0 := 1) rfl rfl rfl rfl rfl ⟨Nat.le_of_ble_eq_true rfl, rfl⟩ (fun _ _ => rfl)
theorem zs_44_11 (hs : znw l4 = true) : zrun zP sv C 44 11 [l0, l1, l2, l3, l4, l5, l6] (.ref a :: st) h = zrun zP sv C 44 13 [l0, l1, l2, l3, .val (.ref a), l5, l6] st h := zx_st hs rfl rfl rfl rfl rfl rfl
theorem zs_44_13 : zrun zP sv C 44 13 [.val (.ref a), l1, l2, l3, l4, l5, l6] st h = zrun zP sv C 44 14 [.val (.ref a), l1, l2, l3, l4, l5, l6] (.ref a :: st) h := zx_go rfl rfl
theorem zs_44_14 : zrun zP sv C 44 14 [l0, l1, l2, l3, .val (.ref a), l5, l6] st h = zrun zP sv C 44 16 [l0, l1, l2, l3, .val (.ref a), l5, l6] (.ref a :: st) h := zx_go rfl rfl
theorem zs_44_16 : zrun zP sv C 44 16 [l0, l1, l2, l3, l4, l5, l6] [v1, .ref b] h = zrc (h.1 b) 1 (zbk (C 77 [.ref b, v1] h) (fun v h' => zrun zP sv C 44 19 [l0, l1, l2, l3, l4, l5, l6] (v.toList ++ []) h') (fun E h' => some (.inr E, h'))) := zx_cv (x0 := 1) rfl rfl rfl rfl rfl ⟨Nat.le_of_ble_eq_true rfl, rfl⟩ (fun _ _ => rfl)
theorem zs_44_19 (hs : znw l5 = true) : zrun zP sv C 44 19 [l0, l1, l2, l3, l4, l5, l6] (.int x :: st) h = zrun zP sv C 44 21 [l0, l1, l2, l3, l4, .val (.int x), l6] st h := zx_st hs rfl rfl rfl rfl rfl rfl
theorem zs_44_21 : zrun zP sv C 44 21 [.val (.ref a), l1, l2, l3, l4, l5, l6] st h = zrun zP sv C 44 22 [.val (.ref a), l1, l2, l3, l4, l5, l6] (.ref a :: st) h := zx_go rfl rfl
theorem zs_44_22 : zrun zP sv C 44 22 [l0, l1, l2, .val (.ref a), l4, l5, l6] st h = zrun zP sv C 44 23 [l0, l1, l2, .val (.ref a), l4, l5, l6] (.ref a :: st) h := zx_go rfl rfl
theorem zs_44_23 : zrun zP sv C 44 23 [l0, l1, l2, l3, l4, l5, l6] [v1, .ref b] h = zrc (h.1 b) 1 (zbk (C 77 [.ref b, v1] h) (fun v h' => zrun zP sv C 44 26 [l0, l1, l2, l3, l4, l5, l6] (v.toList ++ []) h') (fun E h' => some (.inr E, h'))) := zx_cv (x0 := 1) rfl rfl rfl rfl rfl ⟨Nat.le_of_ble_eq_true rfl, rfl⟩ (fun _ _ => rfl)
theorem zs_44_26 (hs : znw l6 = true) : zrun zP sv C 44 26 [l0, l1, l2, l3, l4, l5, l6] (.int x :: st) h = zrun zP sv C 44 28 [l0, l1, l2, l3, l4, l5, .val (.int x)] st h := zx_st hs rfl rfl rfl rfl rfl rfl
theorem zs_44_28 : zrun zP sv C 44 28 [.val (.ref a), l1, l2, l3, l4, l5, l6] st h = zrun zP sv C 44 29 [.val (.ref a), l1, l2, l3, l4, l5, l6] (.ref a :: st) h := zx_go rfl rfl
theorem zs_44_29 : zrun zP sv C 44 29 [l0, l1, l2, l3, l4, l5, l6] (.ref a :: st) h = zfld (h.1 a) 1 11 (fun v => zrun zP sv C 44 32 [l0, l1, l2, l3, l4, l5, l6] (v :: st) h) := zx_getf rfl rfl
theorem zs_44_32 : zrun zP sv C 44 32 [l0, l1, l2, l3, .val (.ref a), l5, l6] st h = zrun zP sv C 44 34 [l0, l1, l2, l3, .val (.ref a), l5, l6] (.ref a :: st) h := zx_go rfl rfl
theorem zs_44_34 : zrun zP sv C 44 34 [l0, l1, l2, l3, l4, l5, l6] [v1, .ref b] h = zrc (h.1 b) 11 (zbk (C 145 [.ref b, v1] h) (fun v h' => zrun zP sv C 44 37 [l0, l1, l2, l3, l4, l5, l6] (v.toList ++ []) h') (fun E h' => some (.inr E, h'))) := zx_cv (x0 := 11) rfl rfl rfl rfl rfl ⟨Nat.le_of_ble_eq_true rfl, rfl⟩ (fun _ _ => rfl)
theorem zs_44_37 : zrun zP sv C 44 37 [l0, l1, l2, l3, l4, l5, .val (.int x)] st h = zrun zP sv C 44 39 [l0, l1, l2, l3, l4, l5, .val (.int x)] (.int x :: st) h := zx_go rfl rfl
theorem zs_44_39 : zrun zP sv C 44 39 [l0, l1, l2, l3, l4, .val (.int x), l6] st h = zrun zP sv C 44 41 [l0, l1, l2, l3, l4, .val (.int x), l6] (.int x :: st) h := zx_go rfl rfl
theorem zs_44_41 : zrun zP sv C 44 41 [l0, l1, l2, l3, l4, l5, l6] (.int y :: .int x :: st) h = zrun zP sv C 44 42 [l0, l1, l2, l3, l4, l5, l6] (.int (x + y) :: st) h := zx_go rfl rfl
theorem zs_44_42 : zrun zP sv C 44 42 [.val (.ref a), l1, l2, l3, l4, l5, l6] st h = zrun zP sv C 44 43 [.val (.ref a), l1, l2, l3, l4, l5, l6] (.ref a :: st) h := zx_go rfl rfl
theorem zs_44_43 : zrun zP sv C 44 43 [l0, l1, l2, l3, l4, l5, l6] (.ref a :: st) h = zfld (h.1 a) 1 11 (fun v => zrun zP sv C 44 46 [l0, l1, l2, l3, l4, l5, l6] (v :: st) h) := zx_getf rfl rfl
theorem zs_44_46 : zrun zP sv C 44 46 [l0, l1, l2, l3, l4, l5, l6] [.ref b, r0] h = zrc (h.1 b) 11 (zbk (C 144 [.ref b] h) (fun v h' => zrun zP sv C 44 49 [l0, l1, l2, l3, l4, l5, l6] (v.toList ++ [r0]) h') (fun E h' => some (.inr E, h'))) := zx_cv (x0 := 11) rfl rfl rfl rfl rfl ⟨Nat.le_of_ble_eq_true rfl, rfl⟩ (fun _ _ => rfl)
theorem zs_44_49 : zrun zP sv C 44 49 [l0, l1, l2, l3, l4, l5, l6] (.int y :: .int x :: st) h = zrun zP sv C 44 50 [l0, l1, l2, l3, l4, l5, l6] (.int (x - y) :: st) h := zx_go rfl rfl
theorem zs_44_50 : zrun zP sv C 44 50 [l0, l1, l2, l3, l4, l5, l6] [.int x] h = some (.inl (some (.int x)), h) := zx_end rfl rfl
theorem zs_45_0 : zrun zP sv C 45 0 [.val (.ref a), l1, l2] st h = zrun zP sv C 45 1 [.val (.ref a), l1, l2] (.ref a :: st) h := zx_go rfl rfl
theorem zs_45_1 : zrun zP sv C 45 1 [l0, .val (.int x), l2] st h = zrun zP sv C 45 2 [l0, .val (.int x), l2] (.int x :: st) h := zx_go rfl rfl
theorem zs_45_2 : zrun zP sv C 45 2 [l0, l1, l2] [v1, .ref b] h = zrc (h.1 b) 1 (zbk (C 70 [.ref b, v1] h) (fun v h' => zrun zP sv C 45 5 [l0, l1, l2] (v.toList ++ []) h') (fun E h' => some (.inr E, h'))) := zx_cv (x0 := 1) rfl rfl rfl rfl rfl ⟨Nat.le_of_ble_eq_true rfl, rfl⟩ (fun _ _ => rfl)
theorem zs_45_5 (hs : znw l2 = true) : zrun zP sv C 45 5 [l0, l1, l2] (.ref a :: st) h = zrun zP sv C 45 6 [l0, l1, .val (.ref a)] st h := zx_st hs rfl rfl rfl rfl rfl rfl
theorem zs_45_6 : zrun zP sv C 45 6 [.val (.ref a), l1, l2] st h = zrun zP sv C 45 7 [.val (.ref a), l1, l2] (.ref a :: st) h := zx_go rfl rfl
theorem zs_45_7 : zrun zP sv C 45 7 [l0, l1, l2] (.ref a :: st) h = zfld (h.1 a) 1 10 (fun v => zrun zP sv C 45 10 [l0, l1, l2] (v :: st) h) := zx_getf rfl rfl
theorem zs_45_10 : zrun zP sv C 45 10 [l0, l1, .val (.ref a)] st h = zrun zP sv C 45 11 [l0, l1, .val (.ref a)] (.ref a :: st) h := zx_go rfl rfl
theorem zs_45_11 : zrun zP sv C 45 11 [l0, l1, .val (.ref a)] st h = zrun zP sv C 45 12 [l0, l1, .val (.ref a)] (.ref a :: st) h := zx_go rfl rfl
theorem zs_45_12 : zrun zP sv C 45 12 [l0, l1, l2] [.ref b, r0, r1] h = zrc (h.1 b) 6 (zbk (C 183 [.ref b] h) (fun v h' => zrun zP sv C 45 15 [l0, l1, l2] (v.toList ++ [r0, r1]) h') (fun E h' => some (.inr E, h'))) := zx_cv (x0 := 6) rfl rfl rfl rfl rfl ⟨Nat.le_of_ble_eq_true rfl, rfl⟩ (fun _ _ => rfl)
theorem zs_45_15 : zrun zP sv C 45 15 [.val (.ref a), l1, l2] st h = zrun zP sv C 45 16 [.val (.ref a), l1, l2] (.ref a :: st) h := zx_go rfl rfl
theorem zs_45_16 : zrun zP sv C 45 16 [l0, l1, l2] (.ref a :: st) h = zfld (h.1 a) 1 2 (fun v => zrun zP sv C 45 19 [l0, l1, l2] (v :: st) h) := zx_getf rfl rfl
theorem zs_45_19 : zrun zP sv C 45 19 [l0, l1, l2] [.ref b, r0, r1, r2] h = zrc (h.1 b) 3 (zbk (C 170 [.ref b] h) (fun v h' => zrun zP sv C 45 22 [l0, l1, l2] (v.toList ++ [r0, r1, r2]) h') (fun E h' => some (.inr E, h'))) := zx_cv (x0 := 3) rfl rfl rfl rfl rfl ⟨Nat.le_of_ble_eq_true rfl, rfl⟩ (fun _ _ => rfl)
theorem zs_45_22 : zrun zP sv C 45 22 [l0, l1, l2] [v3, v2, v1, .ref b] h = zrc (h.1 b) 10 (zbk (C 121 [.ref b, v1, v2, v3] h) (fun v h' => zrun zP sv C 45 25 [l0, l1, l2] (v.toList ++ []) h') (fun E h' => some (.inr E, h'))) := zx_cv (x0 := 10) rfl rfl rfl rfl rfl ⟨Nat.le_of_ble_eq_true rfl, rfl⟩ (fun _ _ => rfl)
theorem zs_45_25 : zrun zP sv C 45 25 [l0, l1, l2] [.int x] h = some (.inl (some (.int x)), h) := zx_end rfl rfl
theorem zs_46_0 : zrun zP sv C 46 0 [.val (.ref a), l1] st h = zrun zP sv C 46 1 [.val (.ref a), l1] (.ref a :: st) h := zx_go rfl rfl
theorem zs_46_1 : zrun zP sv C 46 1 [.val (.ref a), l1] st h = zrun zP sv C 46 2 [.val (.ref a), l1] (.ref a :: st) h := zx_go rfl rfl
theorem zs_46_2 : zrun zP sv C 46 2 [l0, .val (.int x)] st h = zrun zP sv C 46 3 [l0, .val (.int x)] (.int x :: st) h := zx_go rfl rfl
theorem zs_46_3 : zrun zP sv C 46 3 [l0, l1] [v1, .ref b, r0] h = zrc (h.1 b) 1 (zbk (C 70 [.ref b, v1] h) (fun v h' => zrun zP sv C 46 6 [l0, l1] (v.toList ++ [r0]) h') (fun E h' => some (.inr E, h'))) := zx_cv (x0 := 1) rfl rfl rfl rfl rfl ⟨Nat.le_of_ble_eq_true rfl, rfl⟩ (fun _ _ => rfl)
theorem zs_46_6 : zrun zP sv C 46 6 [l0, l1] [v1, .ref b] h = zrc (h.1 b) 1 (zbk (C 76 [.ref b, v1] h) (fun v h' => zrun zP sv C 46 9 [l0, l1] (v.toList ++ []) h') (fun E h' => some (.inr E, h'))) := zx_cv (x0 := 1) rfl rfl rfl rfl rfl ⟨Nat.le_of_ble_eq_true rfl, rfl⟩ (fun _ _ => rfl)
theorem zs_46_9 : zrun zP sv C 46 9 [l0, l1] [.int x] h = some (.inl (some (.int x)), h) := zx_end rfl rfl
theorem zs_47_0 : zrun zP sv C 47 0 [.val (.ref a), l1, l2, l3] st h = zrun zP sv C 47 1 [.val (.ref a), l1, l2, l3] (.ref a :: st) h := zx_go rfl rfl
theorem zs_47_1 : zrun zP sv C 47 1 [l0, .val (.int x), l2, l3] st h = zrun zP sv C 47 2 [l0, .val (.int x), l2, l3] (.int x :: st) h := zx_go rfl rfl
theorem zs_47_2 : zrun zP sv C 47 2 [l0, l1, l2, l3] [v1, .ref b] h = zrc (h.1 b) 1 (zbk (C 70 [.ref b, v1] h) (fun v h' => zrun zP sv C 47 5 [l0, l1, l2, l3] (v.toList ++ []) h') (fun E h' => some (.inr E, h'))) := zx_cv (x0 := 1) rfl rfl rfl rfl rfl ⟨Nat.le_of_ble_eq_true rfl, rfl⟩ (fun _ _ => rfl)
theorem zs_47_5 (hs : znw l3 = true) : zrun zP sv C 47 5 [l0, l1, l2, l3] (.ref a :: st) h = zrun zP sv C 47 6 [l0, l1, l2, .val (.ref a)] st h := zx_st hs rfl rfl rfl rfl rfl rfl
theorem zs_47_6 : zrun zP sv C 47 6 [l0, l1, .val (.int x), l3] st h = zrun zP sv C 47 7 [l0, l1, .val (.int x), l3] (.int x :: st) h := zx_go rfl rfl
theorem zs_47_7 : zrun zP sv C 47 7 [l0, l1, l2, l3] [v0] h = zbk (C 72 [v0] h) (fun v h' => zrun zP sv C 47 10 [l0, l1, l2, l3] (v.toList ++ []) h') (fun E h' => some (.inr E, h')) := zx_cs rfl rfl rfl rfl ⟨Nat.le_of_ble_eq_true rfl, rfl⟩ (fun _ _ => rfl)
theorem zs_47_10 : zrun zP sv C 47 10 [.val (.ref a), l1, l2, l3] st h = zrun zP sv C 47 11 [.val (.ref a), l1, l2, l3] (.ref a :: st) h := zx_go rfl rfl
theorem zs_47_11 : zrun zP sv C 47 11 [l0, l1, l2, l3] (.ref a :: st) h = zfld (h.1 a) 1 10 (fun v => zrun zP sv C 47 14 [l0, l1, l2, l3] (v :: st) h) := zx_getf rfl rfl
theorem zs_47_14 : zrun zP sv C 47 14 [l0, l1, l2, .val (.ref a)] st h = zrun zP sv C 47 15 [l0, l1, l2, .val (.ref a)] (.ref a :: st) h := zx_go rfl rfl
theorem zs_47_15 : zrun zP sv C 47 15 [l0, l1, .val (.int x), l3] st h = zrun zP sv C 47 16 [l0, l1, .val (.int x), l3] (.int x :: st) h := zx_go rfl rfl
theorem zs_47_16 : zrun zP sv C 47 16 [.val (.ref a), l1, l2, l3] st h = zrun zP sv C 47 17 [.val (.ref a), l1, l2, l3] (.ref a :: st) h := zx_go rfl rfl
theorem zs_47_17 : zrun zP sv C 47 17 [l0, l1, l2, l3] (.ref a :: st) h = zfld (h.1 a) 1 2 (fun v => zrun zP sv C 47 20 [l0, l1, l2, l3] (v :: st) h) := zx_getf rfl rfl
theorem zs_47_20 : zrun zP sv C 47 20 [l0, l1, l2, l3] [.ref b, r0, r1, r2] h = zrc (h.1 b) 3 (zbk (C 170 [.ref b] h) (fun v h' => zrun zP sv C 47 23 [l0, l1, l2, l3] (v.toList ++ [r0, r1, r2]) h') (fun E h' => some (.inr E, h'))) := zx_cv (x0 := 3) rfl rfl rfl rfl rfl ⟨Nat.le_of_ble_eq_true rfl, rfl⟩ (fun _ _ => rfl)
theorem zs_47_23 : zrun zP sv C 47 23 [l0, l1, l2, l3] [v3, v2, v1, .ref b] h = zrc (h.1 b) 10 (zbk (C 123 [.ref b, v1, v2, v3] h) (fun v h' => zrun zP sv C 47 26 [l0, l1, l2, l3] (v.toList ++ []) h') (fun E h' => some (.inr E, h'))) := zx_cv (x0 := 10) rfl rfl rfl rfl rfl ⟨Nat.le_of_ble_eq_true rfl, rfl⟩ (fun _ _ => rfl)
theorem zs_47_26 : zrun zP sv C 47 26 [l0, l1, l2, l3] [.int x] h = some (.inl (some (.int x)), h) := zx_end rfl rfl
theorem zs_48_0 : zrun zP sv C 48 0 [.val (.ref a), l1, l2, l3, l4] st h = zrun zP sv C 48 1 [.val (.ref a), l1, l2, l3, l4] (.ref a :: st) h := zx_go rfl rfl
theorem zs_48_1 : zrun zP sv C 48 1 [l0, .val (.int x), l2, l3, l4] st h = zrun zP sv C 48 2 [l0, .val (.int x), l2, l3, l4] (.int x :: st) h := zx_go rfl rfl
theorem zs_48_2 : zrun zP sv C 48 2 [l0, l1, l2, l3, l4] [v1, .ref b] h = zrc (h.1 b) 1 (zbk (C 70 [.ref b, v1] h) (fun v h' => zrun zP sv C 48 5 [l0, l1, l2, l3, l4] (v.toList ++ []) h') (fun E h' => some (.inr E, h'))) := zx_cv (x0 := 1) rfl rfl rfl rfl rfl ⟨Nat.le_of_ble_eq_true rfl, rfl⟩ (fun _ _ => rfl)
theorem zs_48_5 (hs : znw l3 = true) : zrun zP sv C 48 5 [l0, l1, l2, l3, l4] (.ref a :: st) h = zrun zP sv C 48 6 [l0, l1, l2, .val (.ref a), l4] st h := zx_st hs rfl rfl rfl rfl rfl rfl
theorem zs_48_6 : zrun zP sv C 48 6 [l0, l1, .val (.int x), l3, l4] st h = zrun zP sv C 48 7 [l0, l1, .val (.int x), l3, l4] (.int x :: st) h := zx_go rfl rfl
theorem zs_48_7 : zrun zP sv C 48 7 [l0, l1, l2, l3, l4] [v0] h = zbk (C 72 [v0] h) (fun v h' => zrun zP sv C 48 10 [l0, l1, l2, l3, l4] (v.toList ++ []) h') (fun E h' => some (.inr E, h')) := zx_cs rfl rfl rfl rfl ⟨Nat.le_of_ble_eq_true rfl, rfl⟩ (fun _ _ => rfl)
theorem zs_48_10 : zrun zP sv C 48 10 [.val (.ref a), l1, l2, l3, l4] st h = zrun zP sv C 48 11 [.val (.ref a), l1, l2, l3, l4] (.ref a :: st) h := zx_go rfl rfl
theorem zs_48_11 : zrun zP sv C 48 11 [l0, l1, l2, l3, l4] (.ref a :: st) h = zfld (h.1 a) 1 9 (fun v => zrun zP sv C 48 14 [l0, l1, l2, l3, l4] (v :: st) h) := zx_getf rfl rfl
theorem zs_48_14 : zrun zP sv C 48 14 [l0, l1, l2, .val (.ref a), l4] st h = zrun zP sv C 48 15 [l0, l1, l2, .val (.ref a), l4] (.ref a :: st) h := zx_go rfl rfl
theorem zs_48_15 : zrun zP sv C 48 15 [l0, l1, .val (.int x), l3, l4] st h = zrun zP sv C 48 16 [l0, l1, .val (.int x), l3, l4] (.int x :: st) h := zx_go rfl rfl
theorem zs_48_16 : zrun zP sv C 48 16 [.val (.ref a), l1, l2, l3, l4] st h = zrun zP sv C 48 17 [.val (.ref a), l1, l2, l3, l4] (.ref a :: st) h := zx_go rfl rfl
theorem zs_48_17 : zrun zP sv C 48 17 [l0, l1, l2, l3, l4] (.ref a :: st) h = zfld (h.1 a) 1 6 (fun v => zrun zP sv C 48 20 [l0, l1, l2, l3, l4] (v :: st) h) := zx_getf rfl rfl
theorem zs_48_20 : zrun zP sv C 48 20 [l0, l1, l2, l3, l4] [v3, v2, v1, .ref b] h = zrc (h.1 b) 9 (zbk (C 93 [.ref b, v1, v2, v3] h) (fun v h' => zrun zP sv C 48 23 [l0, l1, l2, l3, l4] (v.toList ++ []) h') (fun E h' => some (.inr E, h'))) := zx_cv (x0 := 9) rfl rfl rfl rfl rfl ⟨Nat.le_of_ble_eq_true rfl, rfl⟩ (fun _ _ => rfl)
theorem zs_48_23 (hs : znw l4 = true) : zrun zP sv C 48 23 [l0, l1, l2, l3, l4] (.int x :: st) h = zrun zP sv C 48 25 [l0, l1, l2, l3, .val (.int x)] st h := zx_st hs rfl rfl rfl rfl rfl rfl
theorem zs_48_25 : zrun zP sv C 48 25 [.val (.ref a), l1, l2, l3, l4] st h = zrun zP sv C 48 26 [.val (.ref a), l1, l2, l3, l4] (.ref a :: st) h := zx_go rfl rfl
theorem zs_48_26 : zrun zP sv C 48 26 [l0, l1, l2, l3, l4] (.ref a :: st) h = zfld (h.1 a) 1 10 (fun v => zrun zP sv C 48 29 [l0, l1, l2, l3, l4] (v :: st) h) := zx_getf rfl rfl
theorem zs_48_29 : zrun zP sv C 48 29 [.val (.ref a), l1, l2, l3, l4] st h = zrun zP sv C 48 30 [.val (.ref a), l1, l2, l3, l4] (.ref a :: st) h := zx_go rfl rfl
theorem zs_48_30 : zrun zP sv C 48 30 [l0, l1, l2, l3, l4] (.ref a :: st) h = zfld (h.1 a) 1 6 (fun v => zrun zP sv C 48 33 [l0, l1, l2, l3, l4] (v :: st) h) := zx_getf rfl rfl
theorem zs_48_33 : zrun zP sv C 48 33 [l0, l1, l2, l3, .val (.int x)] st h = zrun zP sv C 48 35 [l0, l1, l2, l3, .val (.int x)] (.int x :: st) h := zx_go rfl rfl
theorem zs_48_35 : zrun zP sv C 48 35 [.val (.ref a), l1, l2, l3, l4] st h = zrun zP sv C 48 36 [.val (.ref a), l1, l2, l3, l4] (.ref a :: st) h := zx_go rfl rfl
theorem zs_48_36 : zrun zP sv C 48 36 [l0, l1, l2, l3, l4] (.ref a :: st) h = zfld (h.1 a) 1 2 (fun v => zrun zP sv C 48 39 [l0, l1, l2, l3, l4] (v :: st) h) := zx_getf rfl rfl
theorem zs_48_39 : zrun zP sv C 48 39 [l0, l1, l2, l3, l4] [.ref b, r0, r1, r2] h = zrc (h.1 b) 3 (zbk (C 170 [.ref b] h) (fun v h' => zrun zP sv C 48 42 [l0, l1, l2, l3, l4] (v.toList ++ [r0, r1, r2]) h') (fun E h' => some (.inr E, h'))) := zx_cv (x0 := 3) rfl rfl rfl rfl rfl ⟨Nat.le_of_ble_eq_true rfl, rfl⟩ (fun _ _ => rfl)
theorem zs_48_42 : zrun zP sv C 48 42 [l0, l1, l2, l3, l4] [v3, v2, v1, .ref b] h = zrc (h.1 b) 10 (zbk (C 121 [.ref b, v1, v2, v3] h) (fun v h' => zrun zP sv C 48 45 [l0, l1, l2, l3, l4] (v.toList ++ []) h') (fun E h' => some (.inr E, h'))) := zx_cv (x0 := 10) rfl rfl rfl rfl rfl ⟨Nat.le_of_ble_eq_true rfl, rfl⟩ (fun _ _ => rfl)
theorem zs_48_45 : zrun zP sv C 48 45 [l0, l1, l2, l3, l4] [.int x] h = some (.inl (some (.int x)), h) := zx_end rfl rfl
theorem zs_49_0 : zrun zP sv C 49 0 [.val (.ref a), l1] st h = zrun zP sv C 49 1 [.val (.ref a), l1] (.ref a :: st) h := zx_go rfl rfl
theorem zs_49_1 : zrun zP sv C 49 1 [l0, l1] (.ref a :: st) h = zfld (h.1 a) 1 10 (fun v => zrun zP sv C 49 4 [l0, l1] (v :: st) h) := zx_getf rfl rfl
theorem zs_49_4 : zrun zP sv C 49 4 [.val (.ref a), l1] st h = zrun zP sv C 49 5 [.val (.ref a), l1] (.ref a :: st) h := zx_go rfl rfl
theorem zs_49_5 : zrun zP sv C 49 5 [l0, .val (.int x)] st h = zrun zP sv C 49 6 [l0, .val (.int x)] (.int x :: st) h := zx_go rfl rfl
theorem zs_49_6 : zrun zP sv C 49 6 [l0, l1] [v1, .ref b, r0] h = zrc (h.1 b) 1 (zbk (C 70 [.ref b, v1] h) (fun v h' => zrun zP sv C 49 9 [l0, l1] (v.toList ++ [r0]) h') (fun E h' => some (.inr E, h'))) := zx_cv (x0 := 1) rfl rfl rfl rfl rfl ⟨Nat.le_of_ble_eq_true rfl, rfl⟩ (fun _ _ => rfl)
theorem zs_49_9 : zrun zP sv C 49 9 [l0, l1] [v1, .ref b] h = zrc (h.1 b) 10 (zbk (C 125 [.ref b, v1] h) (fun v h' => zrun zP sv C 49 12 [l0, l1] (v.toList ++ []) h') (fun E h' => some (.inr E, h'))) := zx_cv (x0 := 10) rfl rfl rfl rfl rfl ⟨Nat.le_of_ble_eq_true rfl, rfl⟩ (fun _ _ => rfl)
theorem zs_49_12 : zrun zP sv C 49 12 [l0, l1] [.int x] h = some (.inl (some (.int x)), h) := zx_end rfl rfl
theorem zs_50_0 : zrun zP sv C 50 0 [.val (.ref a), l1] st h = zrun zP sv C 50 1 [.val (.ref a), l1] (.ref a :: st) h := zx_go rfl rfl
theorem zs_50_1 : zrun zP sv C 50 1 [l0, l1] (.ref a :: st) h = zfld (h.1 a) 1 10 (fun v => zrun zP sv C 50 4 [l0, l1] (v :: st) h) := zx_getf rfl rfl
theorem zs_50_4 : zrun zP sv C 50 4 [.val (.ref a), l1] st h = zrun zP sv C 50 5 [.val (.ref a), l1] (.ref a :: st) h := zx_go rfl rfl
theorem zs_50_5 : zrun zP sv C 50 5 [l0, .val (.int x)] st h = zrun zP sv C 50 6 [l0, .val (.int x)] (.int x :: st) h := zx_go rfl rfl
theorem zs_50_6 : zrun zP sv C 50 6 [l0, l1] [v1, .ref b, r0] h = zrc (h.1 b) 1 (zbk (C 70 [.ref b, v1] h) (fun v h' => zrun zP sv C 50 9 [l0, l1] (v.toList ++ [r0]) h') (fun E h' => some (.inr E, h'))) := zx_cv (x0 := 1) rfl rfl rfl rfl rfl ⟨Nat.le_of_ble_eq_true rfl, rfl⟩ (fun _ _ => rfl)
theorem zs_50_9 : zrun zP sv C 50 9 [l0, l1] [v1, .ref b] h = zrc (h.1 b) 10 (zbk (C 128 [.ref b, v1] h) (fun v h' => zrun zP sv C 50 12 [l0, l1] (v.toList ++ []) h') (fun E h' => some (.inr E, h'))) := zx_cv (x0 := 10) rfl rfl rfl rfl rfl ⟨Nat.le_of_ble_eq_true rfl, rfl⟩ (fun _ _ => rfl)
theorem zs_50_12 : zrun zP sv C 50 12 [l0, l1] [.int x] h = some (.inl (some (.int x)), h) := zx_end rfl rfl
theorem zs_51_0 : zrun zP sv C 51 0 [.val (.ref a), l1] st h = zrun zP sv C 51 1 [.val (.ref a), l1] (.ref a :: st) h := zx_go rfl rfl
theorem zs_51_1 : zrun zP sv C 51 1 [l0, l1] (.ref a :: st) h = zfld (h.1 a) 1 12 (fun v => zrun zP sv C 51 4 [l0, l1] (v :: st) h) := zx_getf rfl rfl
theorem zs_51_4 : zrun zP sv C 51 4 [.val (.ref a), l1] st h = zrun zP sv C 51 5 [.val (.ref a), l1] (.ref a :: st) h := zx_go rfl rfl
theorem zs_51_5 : zrun zP sv C 51 5 [l0, .val (.int x)] st h = zrun zP sv C 51 6 [l0, .val (.int x)] (.int x :: st) h := zx_go rfl rfl
theorem zs_51_6 : zrun zP sv C 51 6 [l0, l1] [v1, .ref b, r0] h = zrc (h.1 b) 1 (zbk (C 70 [.ref b, v1] h) (fun v h' => zrun zP sv C 51 9 [l0, l1] (v.toList ++ [r0]) h') (fun E h' => some (.inr E, h'))) := zx_cv (x0 := 1) rfl rfl rfl rfl rfl ⟨Nat.le_of_ble_eq_true rfl, rfl⟩ (fun _ _ => rfl)
theorem zs_51_9 : zrun zP sv C 51 9 [.val (.ref a), l1] st h = zrun zP sv C 51 10 [.val (.ref a), l1] (.ref a :: st) h := zx_go rfl rfl
theorem zs_51_10 : zrun zP sv C 51 10 [l0, l1] (.ref a :: st) h = zfld (h.1 a) 1 2 (fun v => zrun zP sv C 51 13 [l0, l1] (v :: st) h) := zx_getf rfl rfl
theorem zs_51_13 : zrun zP sv C 51 13 [l0, l1] [.ref b, r0, r1] h = zrc (h.1 b) 3 (zbk (C 171 [.ref b] h) (fun v h' => zrun zP sv C 51 16 [l0, l1] (v.toList ++ [r0, r1]) h') (fun E h' => some (.inr E, h'))) := zx_cv (x0 := 3) rfl rfl rfl rfl rfl ⟨Nat.le_of_ble_eq_true rfl, rfl⟩ (fun _ _ => rfl)
theorem zs_51_16 : zrun zP sv C 51 16 [l0, l1] [v2, v1, .ref b] h = zrc (h.1 b) 12 (zbk (C 107 [.ref b, v1, v2] h) (fun v h' => zrun zP sv C 51 19 [l0, l1] (v.toList ++ []) h') (fun E h' => some (.inr E, h'))) := zx_cv (x0 := 12) rfl rfl rfl rfl rfl ⟨Nat.le_of_ble_eq_true rfl, rfl⟩ (fun _ _ => rfl)
theorem zs_51_19 : zrun zP sv C 51 19 [.val (.ref a), l1] st h = zrun zP sv C 51 20 [.val (.ref a), l1] (.ref a :: st) h := zx_go rfl rfl
theorem zs_51_20 : zrun zP sv C 51 20 [l0, l1] (.ref a :: st) h = zfld (h.1 a) 1 12 (fun v => zrun zP sv C 51 23 [l0, l1] (v :: st) h) := zx_getf rfl rfl
theorem zs_51_23 : zrun zP sv C 51 23 [l0, l1] [.ref b] h = zrc (h.1 b) 12 (zbk (C 102 [.ref b] h) (fun v h' => zrun zP sv C 51 26 [l0, l1] (v.toList ++ []) h') (fun E h' => some (.inr E, h'))) := zx_cv (x0 := 12) rfl rfl rfl rfl rfl ⟨Nat.le_of_ble_eq_true rfl, rfl⟩ (fun _ _ => rfl)
theorem zs_51_26 : zrun zP sv C 51 26 [l0, l1] [.int x] h = some (.inl (some (.int x)), h) := zx_end rfl rfl
theorem zs_52_0 : zrun zP sv C 52 0 [.val (.ref a), l1] st h = zrun zP sv C 52 1 [.val (.ref a), l1] (.ref a :: st) h := zx_go rfl rfl
theorem zs_52_1 : zrun zP sv C 52 1 [l0, l1] (.ref a :: st) h = zfld (h.1 a) 1 12 (fun v => zrun zP sv C 52 4 [l0, l1] (v :: st) h) := zx_getf rfl rfl
theorem zs_52_4 : zrun zP sv C 52 4 [.val (.ref a), l1] st h = zrun zP sv C 52 5 [.val (.ref a), l1] (.ref a :: st) h := zx_go rfl rfl
theorem zs_52_5 : zrun zP sv C 52 5 [l0, .val (.int x)] st h = zrun zP sv C 52 6 [l0, .val (.int x)] (.int x :: st) h := zx_go rfl rfl
theorem zs_52_6 : zrun zP sv C 52 6 [l0, l1] [v1, .ref b, r0] h = zrc (h.1 b) 1 (zbk (C 70 [.ref b, v1] h) (fun v h' => zrun zP sv C 52 9 [l0, l1] (v.toList ++ [r0]) h') (fun E h' => some (.inr E, h'))) := zx_cv (x0 := 1) rfl rfl rfl rfl rfl ⟨Nat.le_of_ble_eq_true rfl, rfl⟩ (fun _ _ => rfl)
theorem zs_52_9 : zrun zP sv C 52 9 [.val (.ref a), l1] st h = zrun zP sv C 52 10 [.val (.ref a), l1] (.ref a :: st) h := zx_go rfl rfl
theorem zs_52_10 : zrun zP sv C 52 10 [l0, l1] (.ref a :: st) h = zfld (h.1 a) 1 2 (fun v => zrun zP sv C 52 13 [l0, l1] (v :: st) h) := zx_getf rfl rfl
theorem zs_52_13 : zrun zP sv C 52 13 [l0, l1] [.ref b, r0, r1] h = zrc (h.1 b) 3 (zbk (C 171 [.ref b] h) (fun v h' => zrun zP sv C 52 16 [l0, l1] (v.toList ++ [r0, r1]) h') (fun E h' => some (.inr E, h'))) := zx_cv (x0 := 3) rfl rfl rfl rfl rfl ⟨Nat.le_of_ble_eq_true rfl, rfl⟩ (fun _ _ => rfl)
theorem zs_52_16 : zrun zP sv C 52 16 [l0, l1] [v2, v1, .ref b] h = zrc (h.1 b) 12 (zbk (C 107 [.ref b, v1, v2] h) (fun v h' => zrun zP sv C 52 19 [l0, l1] (v.toList ++ []) h') (fun E h' => some (.inr E, h'))) := zx_cv (x0 := 12) rfl rfl rfl rfl rfl ⟨Nat.le_of_ble_eq_true rfl, rfl⟩ (fun _ _ => rfl)
theorem zs_52_19 : zrun zP sv C 52 19 [.val (.ref a), l1] st h = zrun zP sv C 52 20 [.val (.ref a), l1] (.ref a :: st) h := zx_go rfl rfl
theorem zs_52_20 : zrun zP sv C 52 20 [l0, l1] (.ref a :: st) h = zfld (h.1 a) 1 12 (fun v => zrun zP sv C 52 23 [l0, l1] (v :: st) h) := zx_getf rfl rfl
theorem zs_52_23 : zrun zP sv C 52 23 [l0, l1] [.ref b] h = zrc (h.1 b) 12 (zbk (C 105 [.ref b] h) (fun v h' => zrun zP sv C 52 26 [l0, l1] (v.toList ++ []) h') (fun E h' => some (.inr E, h'))) := zx_cv (x0 := 12) rfl rfl rfl rfl rfl ⟨Nat.le_of_ble_eq_true rfl, rfl⟩ (fun _ _ => rfl)
theorem zs_52_26 : zrun zP sv C 52 26 [l0, l1] [.int x] h = some (.inl (some (.int x)), h) := zx_end rfl rfl
theorem zs_53_0 : zrun zP sv C 53 0 [.val (.ref a), l1] st h = zrun zP sv C 53 1 [.val (.ref a), l1] (.ref a :: st) h := zx_go rfl rfl
theorem zs_53_1 : zrun zP sv C 53 1 [l0, l1] (.ref a :: st) h = zfld (h.1 a) 1 12 (fun v => zrun zP sv C 53 4 [l0, l1] (v :: st) h) := zx_getf rfl rfl
theorem zs_53_4 : zrun zP sv C 53 4 [.val (.ref a), l1] st h = zrun zP sv C 53 5 [.val (.ref a), l1] (.ref a :: st) h := zx_go rfl rfl
theorem zs_53_5 : zrun zP sv C 53 5 [l0, .val (.int x)] st h = zrun zP sv C 53 6 [l0, .val (.int x)] (.int x :: st) h := zx_go rfl rfl
theorem zs_53_6 : zrun zP sv C 53 6 [l0, l1] [v1, .ref b, r0] h = zrc (h.1 b) 1 (zbk (C 70 [.ref b, v1] h) (fun v h' => zrun zP sv C 53 9 [l0, l1] (v.toList ++ [r0]) h') (fun E h' => some (.inr E, h'))) := zx_cv (x0 := 1) rfl rfl rfl rfl rfl ⟨Nat.le_of_ble_eq_true rfl, rfl⟩ (fun _ _ => rfl)
theorem zs_53_9 : zrun zP sv C 53 9 [.val (.ref a), l1] st h = zrun zP sv C 53 10 [.val (.ref a), l1] (.ref a :: st) h := zx_go rfl rfl
theorem zs_53_10 : zrun zP sv C 53 10 [l0, l1] (.ref a :: st) h = zfld (h.1 a) 1 2 (fun v => zrun zP sv C 53 13 [l0, l1] (v :: st) h) := zx_getf rfl rfl
theorem zs_53_13 : zrun zP sv C 53 13 [l0, l1] [.ref b, r0, r1] h = zrc (h.1 b) 3 (zbk (C 171 [.ref b] h) (fun v h' => zrun zP sv C 53 16 [l0, l1] (v.toList ++ [r0, r1]) h') (fun E h' => some (.inr E, h'))) := zx_cv (x0 := 3) rfl rfl rfl rfl rfl ⟨Nat.le_of_ble_eq_true rfl, rfl⟩ (fun _ _ => rfl)
theorem zs_53_16 : zrun zP sv C 53 16 [l0, l1] [v2, v1, .ref b] h = zrc (h.1 b) 12 (zbk (C 107 [.ref b, v1, v2] h) (fun v h' => zrun zP sv C 53 19 [l0, l1] (v.toList ++ []) h') (fun E h' => some (.inr E, h'))) := zx_cv (x0 := 12) rfl rfl rfl rfl rfl ⟨Nat.le_of_ble_eq_true rfl, rfl⟩ (fun _ _ => rfl)
theorem zs_53_19 : zrun zP sv C 53 19 [.val (.ref a), l1] st h = zrun zP sv C 53 20 [.val (.ref a), l1] (.ref a :: st) h := zx_go rfl rfl
theorem zs_53_20 : zrun zP sv C 53 20 [l0, l1] (.ref a :: st) h = zfld (h.1 a) 1 12 (fun v => zrun zP sv C 53 23 [l0, l1] (v :: st) h) := zx_getf rfl rfl
theorem zs_53_23 : zrun zP sv C 53 23 [l0, l1] [.ref b] h = zrc (h.1 b) 12 (zbk (C 106 [.ref b] h) (fun v h' => zrun zP sv C 53 26 [l0, l1] (v.toList ++ []) h') (fun E h' => some (.inr E, h'))) := zx_cv (x0 := 12) rfl rfl rfl rfl rfl ⟨Nat.le_of_ble_eq_true rfl, rfl⟩ (fun _ _ => rfl)
theorem zs_53_26 : zrun zP sv C 53 26 [l0, l1] [.int x] h = some (.inl (some (.int x)), h) := zx_end rfl rfl
theorem zs_54_0 : zrun zP sv C 54 0 [.val (.ref a), l1, l2, l3] st h = zrun zP sv C 54 1 [.val (.ref a), l1, l2, l3] (.ref a :: st) h := zx_go rfl rfl
theorem zs_54_1 : zrun zP sv C 54 1 [l0, .val (.int x), l2, l3] st h = zrun zP sv C 54 2 [l0, .val (.int x), l2, l3] (.int x :: st) h := zx_go rfl rfl
theorem zs_54_2 : zrun zP sv C 54 2 [l0, l1, l2, l3] [v1, .ref b] h = zrc (h.1 b) 1 (zbk (C 70 [.ref b, v1] h) (fun v h' => zrun zP sv C 54 5 [l0, l1, l2, l3] (v.toList ++ []) h') (fun E h' => some (.inr E, h'))) := zx_cv (x0 := 1) rfl rfl rfl rfl rfl ⟨Nat.le_of_ble_eq_true rfl, rfl⟩ (fun _ _ => rfl)
theorem zs_54_5 (hs : znw l2 = true) : zrun zP sv C 54 5 [l0, l1, l2, l3] (.ref a :: st) h = zrun zP sv C 54 6 [l0, l1, .val (.ref a), l3] st h := zx_st hs rfl rfl rfl rfl rfl rfl
theorem zs_54_6 : zrun zP sv C 54 6 [l0, l1, l2, l3] st h = zrun zP sv C 54 7 [l0, l1, l2, l3] (.int (nI 1) :: st) h := zx_go rfl rfl
theorem zs_54_7 (hs : znw l3 = true) : zrun zP sv C 54 7 [l0, l1, l2, l3] (.int x :: st) h = zrun zP sv C 54 8 [l0, l1, l2, .val (.int x)] st h := zx_st hs rfl rfl rfl rfl rfl rfl
theorem zs_54_8 : zrun zP sv C 54 8 [l0, l1, l2, .val (.int x)] st h = zrun zP sv C 54 9 [l0, l1, l2, .val (.int x)] (.int x :: st) h := zx_go rfl rfl
theorem zs_54_9 : zrun zP sv C 54 9 [l0, l1, l2, l3] st h = zrun zP sv C 54 10 [l0, l1, l2, l3] (.int (nI 4) :: st) h := zx_go rfl rfl
theorem zs_54_10 : zrun zP sv C 54 10 [l0, l1, l2, l3] (.int y :: .int x :: st) h = if y < x then zrun zP sv C 54 40 [l0, l1, l2, l3] st h else zrun zP sv C 54 13 [l0, l1, l2, l3] st h := (zx_ic rfl rfl).trans zc4_if
theorem zs_54_13 : zrun zP sv C 54 13 [.val (.ref a), l1, l2, l3] st h = zrun zP sv C 54 14 [.val (.ref a), l1, l2, l3] (.ref a :: st) h := zx_go rfl rfl
theorem zs_54_14 : zrun zP sv C 54 14 [l0, l1, l2, l3] (.ref a :: st) h = zfld (h.1 a) 1 12 (fun v => zrun zP sv C 54 17 [l0, l1, l2, l3] (v :: st) h) := zx_getf rfl rfl
theorem zs_54_17 : zrun zP sv C 54 17 [l0, l1, .val (.ref a), l3] st h = zrun zP sv C 54 18 [l0, l1, .val (.ref a), l3] (.ref a :: st) h := zx_go rfl rfl
theorem zs_54_18 : zrun zP sv C 54 18 [l0, l1, l2, .val (.int x)] st h = zrun zP sv C 54 19 [l0, l1, l2, .val (.int x)] (.int x :: st) h := zx_go rfl rfl
theorem zs_54_19 : zrun zP sv C 54 19 [l0, l1, l2, l3] [v2, v1, .ref b] h = zrc (h.1 b) 12 (zbk (C 107 [.ref b, v1, v2] h) (fun v h' => zrun zP sv C 54 22 [l0, l1, l2, l3] (v.toList ++ []) h') (fun E h' => some (.inr E, h'))) := zx_cv (x0 := 12) rfl rfl rfl rfl rfl ⟨Nat.le_of_ble_eq_true rfl, rfl⟩ (fun _ _ => rfl)
theorem zs_54_22 : zrun zP sv C 54 22 [.val (.ref a), l1, l2, l3] st h = zrun zP sv C 54 23 [.val (.ref a), l1, l2, l3] (.ref a :: st) h := zx_go rfl rfl
theorem zs_54_23 : zrun zP sv C 54 23 [l0, l1, l2, l3] (.ref a :: st) h = zfld (h.1 a) 1 12 (fun v => zrun zP sv C 54 26 [l0, l1, l2, l3] (v :: st) h) := zx_getf rfl rfl
theorem zs_54_26 : zrun zP sv C 54 26 [l0, l1, l2, l3] [.ref b] h = zrc (h.1 b) 12 (zbk (C 105 [.ref b] h) (fun v h' => zrun zP sv C 54 29 [l0, l1, l2, l3] (v.toList ++ []) h') (fun E h' => some (.inr E, h'))) := zx_cv (x0 := 12) rfl rfl rfl rfl rfl ⟨Nat.le_of_ble_eq_true rfl, rfl⟩ (fun _ _ => rfl)
theorem zs_54_29 : zrun zP sv C 54 29 [l0, l1, l2, l3] (.int x :: st) h = if x = 0 then zrun zP sv C 54 32 [l0, l1, l2, l3] st h else zrun zP sv C 54 34 [l0, l1, l2, l3] st h := (zx_if rfl rfl).trans zc1_if
theorem zs_54_32 : zrun zP sv C 54 32 [l0, l1, l2, .val (.int x)] st h = zrun zP sv C 54 33 [l0, l1, l2, .val (.int x)] (.int x :: st) h := zx_go rfl rfl
theorem zs_54_33 : zrun zP sv C 54 33 [l0, l1, l2, l3] [.int x] h = some (.inl (some (.int x)), h) := zx_end rfl rfl
theorem zs_54_34 : zrun zP sv C 54 34 [l0, l1, l2, .val (.int x)] st h = zrun zP sv C 54 37 [l0, l1, l2, .val (.int (x + (nI 1)))] st h := zx_ii rfl rfl rfl rfl rfl
theorem zs_54_37 : zrun zP sv C 54 37 [l0, l1, l2, l3] st h = zrun zP sv C 54 8 [l0, l1, l2, l3] st h := zx_go rfl rfl
theorem zs_54_40 : zrun zP sv C 54 40 [l0, l1, l2, l3] [] h = some (.inr 4, znew h (0, []) 6) := zx_end rfl rfl
theorem zs_55_0 : zrun zP sv C 55 0 [.val (.ref a), l1, l2] st h = zrun zP sv C 55 1 [.val (.ref a), l1, l2] (.ref a :: st) h := zx_go rfl rfl
theorem zs_55_1 : zrun zP sv C 55 1 [l0, l1, l2] (.ref a :: st) h = zfld (h.1 a) 1 12 (fun v => zrun zP sv C 55 4 [l0, l1, l2] (v :: st) h) := zx_getf rfl rfl
theorem zs_55_4 : zrun zP sv C 55 4 [.val (.ref a), l1, l2] st h = zrun zP sv C 55 5 [.val (.ref a), l1, l2] (.ref a :: st) h := zx_go rfl rfl
theorem zs_55_5 : zrun zP sv C 55 5 [l0, .val (.int x), l2] st h = zrun zP sv C 55 6 [l0, .val (.int x), l2] (.int x :: st) h := zx_go rfl rfl
theorem zs_55_6 : zrun zP sv C 55 6 [l0, l1, l2] [v1, .ref b, r0] h = zrc (h.1 b) 1 (zbk (C 70 [.ref b, v1] h) (fun v h' => zrun zP sv C 55 9 [l0, l1, l2] (v.toList ++ [r0]) h') (fun E h' => some (.inr E, h'))) := zx_cv (x0 := 1) rfl rfl rfl rfl rfl ⟨Nat.le_of_ble_eq_true rfl, rfl⟩ (fun _ _ => rfl)
theorem zs_55_9 : zrun zP sv C 55 9 [.val (.ref a), l1, l2] st h = zrun zP sv C 55 10 [.val (.ref a), l1, l2] (.ref a :: st) h := zx_go rfl rfl
theorem zs_55_10 : zrun zP sv C 55 10 [l0, l1, l2] (.ref a :: st) h = zfld (h.1 a) 1 2 (fun v => zrun zP sv C 55 13 [l0, l1, l2] (v :: st) h) := zx_getf rfl rfl
theorem zs_55_13 : zrun zP sv C 55 13 [l0, l1, l2] [.ref b, r0, r1] h = zrc (h.1 b) 3 (zbk (C 171 [.ref b] h) (fun v h' => zrun zP sv C 55 16 [l0, l1, l2] (v.toList ++ [r0, r1]) h') (fun E h' => some (.inr E, h'))) := zx_cv (x0 := 3) rfl rfl rfl rfl rfl ⟨Nat.le_of_ble_eq_true rfl, rfl⟩ (fun _ _ => rfl)
theorem zs_55_16 : zrun zP sv C 55 16 [l0, l1, l2] [v2, v1, .ref b] h = zrc (h.1 b) 12 (zbk (C 107 [.ref b, v1, v2] h) (fun v h' => zrun zP sv C 55 19 [l0, l1, l2] (v.toList ++ []) h') (fun E h' => some (.inr E, h'))) := zx_cv (x0 := 12) rfl rfl rfl rfl rfl ⟨Nat.le_of_ble_eq_true rfl, rfl⟩ (fun _ _ => rfl)
theorem zs_55_19 : zrun zP sv C 55 19 [.val (.ref a), l1, l2] st h = zrun zP sv C 55 20 [.val (.ref a), l1, l2] (.ref a :: st) h := zx_go rfl rfl
theorem zs_55_20 : zrun zP sv C 55 20 [l0, l1, .val (.int x)] st h = zrun zP sv C 55 21 [l0, l1, .val (.int x)] (.int x :: st) h := zx_go rfl rfl
theorem zs_55_21 : zrun zP sv C 55 21 [l0, l1, l2] [v1, .ref b] h = zrc (h.1 b) 1 (zbk (C 71 [.ref b, v1] h) (fun v h' => zrun zP sv C 55 24 [l0, l1, l2] (v.toList ++ []) h') (fun E h' => some (.inr E, h'))) := zx_cv (x0 := 1) rfl rfl rfl rfl rfl ⟨Nat.le_of_ble_eq_true rfl, rfl⟩ (fun _ _ => rfl)
theorem zs_55_24 : zrun zP sv C 55 24 [.val (.ref a), l1, l2] st h = zrun zP sv C 55 25 [.val (.ref a), l1, l2] (.ref a :: st) h := zx_go rfl rfl
theorem zs_55_25 : zrun zP sv C 55 25 [l0, l1, l2] (.ref a :: st) h = zfld (h.1 a) 1 12 (fun v => zrun zP sv C 55 28 [l0, l1, l2] (v :: st) h) := zx_getf rfl rfl
theorem zs_55_28 : zrun zP sv C 55 28 [l0, l1, .val (.int x)] st h = zrun zP sv C 55 29 [l0, l1, .val (.int x)] (.int x :: st) h := zx_go rfl rfl
theorem zs_55_29 : zrun zP sv C 55 29 [l0, l1, l2] [v1, .ref b] h = zrc (h.1 b) 12 (zbk (C 103 [.ref b, v1] h) (fun v h' => zrun zP sv C 55 32 [l0, l1, l2] (v.toList ++ []) h') (fun E h' => some (.inr E, h'))) := zx_cv (x0 := 12) rfl rfl rfl rfl rfl ⟨Nat.le_of_ble_eq_true rfl, rfl⟩ (fun _ _ => rfl)
theorem zs_55_32 : zrun zP sv C 55 32 [l0, l1, l2] [.int x] h = zgd (zty 7 (.int x)) (some (.inl (some (.int x)), h)) := zx_rt rfl
theorem zs_56_0 : zrun zP sv C 56 0 [.val (.ref a), l1, l2] st h = zrun zP sv C 56 1 [.val (.ref a), l1, l2] (.ref a :: st) h := zx_go rfl rfl
theorem zs_56_1 : zrun zP sv C 56 1 [l0, l1, l2] (.ref a :: st) h = zfld (h.1 a) 1 12 (fun v => zrun zP sv C 56 4 [l0, l1, l2] (v :: st) h) := zx_getf rfl rfl
theorem zs_56_4 : zrun zP sv C 56 4 [.val (.ref a), l1, l2] st h = zrun zP sv C 56 5 [.val (.ref a), l1, l2] (.ref a :: st) h := zx_go rfl rfl
theorem zs_56_5 : zrun zP sv C 56 5 [l0, .val (.int x), l2] st h = zrun zP sv C 56 6 [l0, .val (.int x), l2] (.int x :: st) h := zx_go rfl rfl
theorem zs_56_6 : zrun zP sv C 56 6 [l0, l1, l2] [v1, .ref b, r0] h = zrc (h.1 b) 1 (zbk (C 70 [.ref b, v1] h) (fun v h' => zrun zP sv C 56 9 [l0, l1, l2] (v.toList ++ [r0]) h') (fun E h' => some (.inr E, h'))) := zx_cv (x0 := 1) rfl rfl rfl rfl rfl ⟨Nat.le_of_ble_eq_true rfl, rfl⟩ (fun _ _ => rfl)
theorem zs_56_9 : zrun zP sv C 56 9 [.val (.ref a), l1, l2] st h = zrun zP sv C 56 10 [.val (.ref a), l1, l2] (.ref a :: st) h := zx_go rfl rfl
theorem zs_56_10 : zrun zP sv C 56 10 [l0, l1, l2] (.ref a :: st) h = zfld (h.1 a) 1 2 (fun v => zrun zP sv C 56 13 [l0, l1, l2] (v :: st) h) := zx_getf rfl rfl
theorem zs_56_13 : zrun zP sv C 56 13 [l0, l1, l2] [.ref b, r0, r1] h = zrc (h.1 b) 3 (zbk (C 171 [.ref b] h) (fun v h' => zrun zP sv C 56 16 [l0, l1, l2] (v.toList ++ [r0, r1]) h') (fun E h' => some (.inr E, h'))) := zx_cv (x0 := 3) rfl rfl rfl rfl rfl ⟨Nat.le_of_ble_eq_true rfl, rfl⟩ (fun _ _ => rfl)
theorem zs_56_16 : zrun zP sv C 56 16 [l0, l1, l2] [v2, v1, .ref b] h = zrc (h.1 b) 12 (zbk (C 107 [.ref b, v1, v2] h) (fun v h' => zrun zP sv C 56 19 [l0, l1, l2] (v.toList ++ []) h') (fun E h' => some (.inr E, h'))) := zx_cv (x0 := 12) rfl rfl rfl rfl rfl ⟨Nat.le_of_ble_eq_true rfl, rfl⟩ (fun _ _ => rfl)
theorem zs_56_19 : zrun zP sv C 56 19 [.val (.ref a), l1, l2] st h = zrun zP sv C 56 20 [.val (.ref a), l1, l2] (.ref a :: st) h := zx_go rfl rfl
theorem zs_56_20 : zrun zP sv C 56 20 [l0, l1, .val (.int x)] st h = zrun zP sv C 56 21 [l0, l1, .val (.int x)] (.int x :: st) h := zx_go rfl rfl
theorem zs_56_21 : zrun zP sv C 56 21 [l0, l1, l2] [v1, .ref b] h = zrc (h.1 b) 1 (zbk (C 71 [.ref b, v1] h) (fun v h' => zrun zP sv C 56 24 [l0, l1, l2] (v.toList ++ []) h') (fun E h' => some (.inr E, h'))) := zx_cv (x0 := 1) rfl rfl rfl rfl rfl ⟨Nat.le_of_ble_eq_true rfl, rfl⟩ (fun _ _ => rfl)
theorem zs_56_24 : zrun zP sv C 56 24 [.val (.ref a), l1, l2] st h = zrun zP sv C 56 25 [.val (.ref a), l1, l2] (.ref a :: st) h := zx_go rfl rfl
theorem zs_56_25 : zrun zP sv C 56 25 [l0, l1, l2] (.ref a :: st) h = zfld (h.1 a) 1 12 (fun v => zrun zP sv C 56 28 [l0, l1, l2] (v :: st) h) := zx_getf rfl rfl
theorem zs_56_28 : zrun zP sv C 56 28 [l0, l1, .val (.int x)] st h = zrun zP sv C 56 29 [l0, l1, .val (.int x)] (.int x :: st) h := zx_go rfl rfl
theorem zs_56_29 : zrun zP sv C 56 29 [l0, l1, l2] [v1, .ref b] h = zrc (h.1 b) 12 (zbk (C 104 [.ref b, v1] h) (fun v h' => zrun zP sv C 56 32 [l0, l1, l2] (v.toList ++ []) h') (fun E h' => some (.inr E, h'))) := zx_cv (x0 := 12) rfl rfl rfl rfl rfl ⟨Nat.le_of_ble_eq_true rfl, rfl⟩ (fun _ _ => rfl)
theorem zs_56_32 : zrun zP sv C 56 32 [l0, l1, l2] [.int x] h = some (.inl (some (.int x)), h) := zx_end rfl rfl
theorem zs_57_0 : zrun zP sv C 57 0 [.val (.ref a), l1, l2] st h = zrun zP sv C 57 1 [.val (.ref a), l1, l2] (.ref a :: st) h := zx_go rfl rfl
theorem zs_57_1 : zrun zP sv C 57 1 [l0, l1, l2] (.ref a :: st) h = zfld (h.1 a) 1 12 (fun v => zrun zP sv C 57 4 [l0, l1, l2] (v :: st) h) := zx_getf rfl rfl
theorem zs_57_4 : zrun zP sv C 57 4 [.val (.ref a), l1, l2] st h = zrun zP sv C 57 5 [.val (.ref a), l1, l2] (.ref a :: st) h := zx_go rfl rfl
theorem zs_57_5 : zrun zP sv C 57 5 [l0, .val (.int x), l2] st h = zrun zP sv C 57 6 [l0, .val (.int x), l2] (.int x :: st) h := zx_go rfl rfl
theorem zs_57_6 : zrun zP sv C 57 6 [l0, l1, l2] [v1, .ref b, r0] h = zrc (h.1 b) 1 (zbk (C 70 [.ref b, v1] h) (fun v h' => zrun zP sv C 57 9 [l0, l1, l2] (v.toList ++ [r0]) h') (fun E h' => some (.inr E, h'))) := zx_cv (x0 := 1) rfl rfl rfl rfl rfl ⟨Nat.le_of_ble_eq_true rfl, rfl⟩ (fun _ _ => rfl)
theorem zs_57_9 : zrun zP sv C 57 9 [.val (.ref a), l1, l2] st h = zrun zP sv C 57 10 [.val (.ref a), l1, l2] (.ref a :: st) h := zx_go rfl rfl
theorem zs_57_10 : zrun zP sv C 57 10 [l0, l1, l2] (.ref a :: st) h = zfld (h.1 a) 1 2 (fun v => zrun zP sv C 57 13 [l0, l1, l2] (v :: st) h) := zx_getf rfl rfl
theorem zs_57_13 : zrun zP sv C 57 13 [l0, l1, l2] [.ref b, r0, r1] h = zrc (h.1 b) 3 (zbk (C 171 [.ref b] h) (fun v h' => zrun zP sv C 57 16 [l0, l1, l2] (v.toList ++ [r0, r1]) h') (fun E h' => some (.inr E, h'))) := zx_cv (x0 := 3) rfl rfl rfl rfl rfl ⟨Nat.le_of_ble_eq_true rfl, rfl⟩ (fun _ _ => rfl)
theorem zs_57_16 : zrun zP sv C 57 16 [l0, l1, l2] [v2, v1, .ref b] h = zrc (h.1 b) 12 (zbk (C 107 [.ref b, v1, v2] h) (fun v h' => zrun zP sv C 57 19 [l0, l1, l2] (v.toList ++ []) h') (fun E h' => some (.inr E, h'))) := zx_cv (x0 := 12) rfl rfl rfl rfl rfl ⟨Nat.le_of_ble_eq_true rfl, rfl⟩ (fun _ _ => rfl)
theorem zs_57_19 : zrun zP sv C 57 19 [.val (.ref a), l1, l2] st h = zrun zP sv C 57 20 [.val (.ref a), l1, l2] (.ref a :: st) h := zx_go rfl rfl
theorem zs_57_20 : zrun zP sv C 57 20 [l0, l1, .val (.int x)] st h = zrun zP sv C 57 21 [l0, l1, .val (.int x)] (.int x :: st) h := zx_go rfl rfl
theorem zs_57_21 : zrun zP sv C 57 21 [l0, l1, l2] [v1, .ref b] h = zrc (h.1 b) 1 (zbk (C 71 [.ref b, v1] h) (fun v h' => zrun zP sv C 57 24 [l0, l1, l2] (v.toList ++ []) h') (fun E h' => some (.inr E, h'))) := zx_cv (x0 := 1) rfl rfl rfl rfl rfl ⟨Nat.le_of_ble_eq_true rfl, rfl⟩ (fun _ _ => rfl)
theorem zs_57_24 : zrun zP sv C 57 24 [.val (.ref a), l1, l2] st h = zrun zP sv C 57 25 [.val (.ref a), l1, l2] (.ref a :: st) h := zx_go rfl rfl
theorem zs_57_25 : zrun zP sv C 57 25 [l0, l1, l2] (.ref a :: st) h = zfld (h.1 a) 1 0 (fun v => zrun zP sv C 57 28 [l0, l1, l2] (v :: st) h) := zx_getf rfl rfl
theorem zs_57_28 : zrun zP sv C 57 28 [l0, l1, l2] st h = zrun zP sv C 57 29 [l0, l1, l2] (.int 0 :: st) h := zx_go rfl rfl
theorem zs_57_29 : zrun zP sv C 57 29 [l0, l1, l2] [v1, .ref b] h = zrc (h.1 b) 2 (zbk (C 2 [.ref b, v1] h) (fun v h' => zrun zP sv C 57 32 [l0, l1, l2] (v.toList ++ []) h') (fun E h' => some (.inr E, h'))) := zx_cv (x0 := 2) rfl rfl rfl rfl rfl ⟨Nat.le_of_ble_eq_true rfl, rfl⟩ (fun _ _ => rfl)
theorem zs_57_32 : zrun zP sv C 57 32 [.val (.ref a), l1, l2] st h = zrun zP sv C 57 33 [.val (.ref a), l1, l2] (.ref a :: st) h := zx_go rfl rfl
theorem zs_57_33 : zrun zP sv C 57 33 [l0, l1, l2] (.ref a :: st) h = zfld (h.1 a) 1 12 (fun v => zrun zP sv C 57 36 [l0, l1, l2] (v :: st) h) := zx_getf rfl rfl
theorem zs_57_36 : zrun zP sv C 57 36 [l0, l1, .val (.int x)] st h = zrun zP sv C 57 37 [l0, l1, .val (.int x)] (.int x :: st) h := zx_go rfl rfl
theorem zs_57_37 : zrun zP sv C 57 37 [.val (.ref a), l1, l2] st h = zrun zP sv C 57 38 [.val (.ref a), l1, l2] (.ref a :: st) h := zx_go rfl rfl
theorem zs_57_38 : zrun zP sv C 57 38 [l0, l1, l2] (.ref a :: st) h = zfld (h.1 a) 1 0 (fun v => zrun zP sv C 57 41 [l0, l1, l2] (v :: st) h) := zx_getf rfl rfl
theorem zs_57_41 : zrun zP sv C 57 41 [l0, l1, l2] [v2, v1, .ref b] h = zrc (h.1 b) 12 (zbk (C 114 [.ref b, v1, v2] h) (fun v h' => zrun zP sv C 57 44 [l0, l1, l2] (v.toList ++ []) h') (fun E h' => some (.inr E, h'))) := zx_cv (x0 := 12) rfl rfl rfl rfl rfl ⟨Nat.le_of_ble_eq_true rfl, rfl⟩ (fun _ _ => rfl)
theorem zs_57_44 : zrun zP sv C 57 44 [.val (.ref a), l1, l2] st h = zrun zP sv C 57 45 [.val (.ref a), l1, l2] (.ref a :: st) h := zx_go rfl rfl
theorem zs_57_45 : zrun zP sv C 57 45 [l0, l1, l2] (.ref a :: st) h = zfld (h.1 a) 1 0 (fun v => zrun zP sv C 57 48 [l0, l1, l2] (v :: st) h) := zx_getf rfl rfl
theorem zs_57_48 : zrun zP sv C 57 48 [l0, l1, l2] [.ref b] h = zrc (h.1 b) 2 (zbk (C 13 [.ref b] h) (fun v h' => zrun zP sv C 57 51 [l0, l1, l2] (v.toList ++ []) h') (fun E h' => some (.inr E, h'))) := zx_cv (x0 := 2) rfl rfl rfl rfl rfl ⟨Nat.le_of_ble_eq_true rfl, rfl⟩ (fun _ _ => rfl)
theorem zs_57_51 : zrun zP sv C 57 51 [l0, l1, l2] [.int x] h = some (.inl (some (.int x)), h) := zx_end rfl rfl
theorem zs_58_0 : zrun zP sv C 58 0 [.val (.ref a), l1, l2] st h = zrun zP sv C 58 1 [.val (.ref a), l1, l2] (.ref a :: st) h := zx_go rfl rfl
theorem zs_58_1 : zrun zP sv C 58 1 [l0, .val (.int x), l2] st h = zrun zP sv C 58 2 [l0, .val (.int x), l2] (.int x :: st) h := zx_go rfl rfl
theorem zs_58_2 : zrun zP sv C 58 2 [l0, l1, l2] [v1, .ref b] h = zrc (h.1 b) 1 (zbk (C 70 [.ref b, v1] h) (fun v h' => zrun zP sv C 58 5 [l0, l1, l2] (v.toList ++ []) h') (fun E h' => some (.inr E, h'))) := zx_cv (x0 := 1) rfl rfl rfl rfl rfl ⟨Nat.le_of_ble_eq_true rfl, rfl⟩ (fun _ _ => rfl)
theorem zs_58_5 (hs : znw l2 = true) : zrun zP sv C 58 5 [l0, l1, l2] (.ref a :: st) h = zrun zP sv C 58 6 [l0, l1, .val (.ref a)] st h := zx_st hs rfl rfl rfl rfl rfl rfl
theorem zs_58_6 : zrun zP sv C 58 6 [.val (.ref a), l1, l2] st h = zrun zP sv C 58 7 [.val (.ref a), l1, l2] (.ref a :: st) h := zx_go rfl rfl
theorem zs_58_7 : zrun zP sv C 58 7 [l0, l1, l2] (.ref a :: st) h = zfld (h.1 a) 1 0 (fun v => zrun zP sv C 58 10 [l0, l1, l2] (v :: st) h) := zx_getf rfl rfl
theorem zs_58_10 : zrun zP sv C 58 10 [l0, l1, l2] st h = zrun zP sv C 58 11 [l0, l1, l2] (.int 0 :: st) h := zx_go rfl rfl
theorem zs_58_11 : zrun zP sv C 58 11 [l0, l1, l2] [v1, .ref b] h = zrc (h.1 b) 2 (zbk (C 2 [.ref b, v1] h) (fun v h' => zrun zP sv C 58 14 [l0, l1, l2] (v.toList ++ []) h') (fun E h' => some (.inr E, h'))) := zx_cv (x0 := 2) rfl rfl rfl rfl rfl ⟨Nat.le_of_ble_eq_true rfl, rfl⟩ (fun _ _ => rfl)
theorem zs_58_14 : zrun zP sv C 58 14 [l0, l1, .val (.ref a)] st h = zrun zP sv C 58 15 [l0, l1, .val (.ref a)] (.ref a :: st) h := zx_go rfl rfl
theorem zs_58_15 : zrun zP sv C 58 15 [l0, l1, .val (.ref a)] st h = zrun zP sv C 58 16 [l0, l1, .val (.ref a)] (.ref a :: st) h := zx_go rfl rfl
theorem zs_58_16 : zrun zP sv C 58 16 [l0, l1, l2] [.ref b, r0] h = zrc (h.1 b) 6 (zbk (C 183 [.ref b] h) (fun v h' => zrun zP sv C 58 19 [l0, l1, l2] (v.toList ++ [r0]) h') (fun E h' => some (.inr E, h'))) := zx_cv (x0 := 6) rfl rfl rfl rfl rfl ⟨Nat.le_of_ble_eq_true rfl, rfl⟩ (fun _ _ => rfl)
theorem zs_58_19 : zrun zP sv C 58 19 [l0, l1, l2] st h = zrun zP sv C 58 20 [l0, l1, l2] (.int (nI 1) :: st) h := zx_go rfl rfl
theorem zs_58_20 : zrun zP sv C 58 20 [l0, l1, l2] st h = zrun zP sv C 58 21 [l0, l1, l2] (.int 0 :: st) h := zx_go rfl rfl
theorem zs_58_21 : zrun zP sv C 58 21 [.val (.ref a), l1, l2] st h = zrun zP sv C 58 22 [.val (.ref a), l1, l2] (.ref a :: st) h := zx_go rfl rfl
theorem zs_58_22 : zrun zP sv C 58 22 [l0, l1, l2] (.ref a :: st) h = zfld (h.1 a) 1 0 (fun v => zrun zP sv C 58 25 [l0, l1, l2] (v :: st) h) := zx_getf rfl rfl
theorem zs_58_25 : zrun zP sv C 58 25 [l0, l1, l2] st h = zrun zP sv C 58 26 [l0, l1, l2] (.int (nI 1) :: st) h := zx_go rfl rfl
theorem zs_58_26 : zrun zP sv C 58 26 [l0, l1, l2] [v5, v4, v3, v2, v1, v0] h = zbk (C 88 [v0, v1, v2, v3, v4, v5] h) (fun v h' => zrun zP sv C 58 29 [l0, l1, l2] (v.toList ++ []) h') (fun E h' => some (.inr E, h')) := zx_cs rfl rfl rfl rfl ⟨Nat.le_of_ble_eq_true rfl, rfl⟩ (fun _ _ => rfl)
theorem zs_58_29 : zrun zP sv C 58 29 [.val (.ref a), l1, l2] st h = zrun zP sv C 58 30 [.val (.ref a), l1, l2] (.ref a :: st) h := zx_go rfl rfl
theorem zs_58_30 : zrun zP sv C 58 30 [l0, l1, l2] (.ref a :: st) h = zfld (h.1 a) 1 0 (fun v => zrun zP sv C 58 33 [l0, l1, l2] (v :: st) h) := zx_getf rfl rfl
theorem zs_58_33 : zrun zP sv C 58 33 [l0, l1, l2] [.ref b] h = zrc (h.1 b) 2 (zbk (C 13 [.ref b] h) (fun v h' => zrun zP sv C 58 36 [l0, l1, l2] (v.toList ++ []) h') (fun E h' => some (.inr E, h'))) := zx_cv (x0 := 2) rfl rfl rfl rfl rfl ⟨Nat.le_of_ble_eq_true rfl, rfl⟩ (fun _ _ => rfl)
theorem zs_58_36 : zrun zP sv C 58 36 [l0, l1, l2] [.int x] h = some (.inl (some (.int x)), h) := zx_end rfl rfl
theorem zs_59_0 : zrun zP sv C 59 0 [l0, .val (.int x)] st h = zrun zP sv C 59 1 [l0, .val (.int x)] (.int x :: st) h := zx_go rfl rfl
theorem zs_59_1 : zrun zP sv C 59 1 [l0, l1] (.int x :: st) h = if x < 0 then zrun zP sv C 59 15 [l0, l1] st h else zrun zP sv C 59 4 [l0, l1] st h := (zx_if rfl rfl).trans zc2_if
theorem zs_59_4 : zrun zP sv C 59 4 [l0, .val (.int x)] st h = zrun zP sv C 59 5 [l0, .val (.int x)] (.int x :: st) h := zx_go rfl rfl
theorem zs_59_5 : zrun zP sv C 59 5 [.val (.ref a), l1] st h = zrun zP sv C 59 6 [.val (.ref a), l1] (.ref a :: st) h := zx_go rfl rfl
theorem zs_59_6 : zrun zP sv C 59 6 [l0, l1] (.ref a :: st) h = zfld (h.1 a) 1 0 (fun v => zrun zP sv C 59 9 [l0, l1] (v :: st) h) := zx_getf rfl rfl
theorem zs_59_9 : zrun zP sv C 59 9 [l0, l1] [.ref b, r0] h = zrc (h.1 b) 2 (zbk (C 13 [.ref b] h) (fun v h' => zrun zP sv C 59 12 [l0, l1] (v.toList ++ [r0]) h') (fun E h' => some (.inr E, h'))) := zx_cv (x0 := 2) rfl rfl rfl rfl rfl ⟨Nat.le_of_ble_eq_true rfl, rfl⟩ (fun _ _ => rfl)
theorem zs_59_12 : zrun zP sv C 59 12 [l0, l1] (.int y :: .int x :: st) h = if x < y then zrun zP sv C 59 26 [l0, l1] st h else zrun zP sv C 59 15 [l0, l1] st h := (zx_ic rfl rfl).trans zc2_if
theorem zs_59_15 : zrun zP sv C 59 15 [l0, l1] [] h = some (.inr 2, znew h (0, []) 6) := zx_end rfl rfl
theorem zs_59_26 : zrun zP sv C 59 26 [.val (.ref a), l1] st h = zrun zP sv C 59 27 [.val (.ref a), l1] (.ref a :: st) h := zx_go rfl rfl
theorem zs_59_27 : zrun zP sv C 59 27 [l0, l1] (.ref a :: st) h = zfld (h.1 a) 1 0 (fun v => zrun zP sv C 59 30 [l0, l1] (v :: st) h) := zx_getf rfl rfl
theorem zs_59_30 : zrun zP sv C 59 30 [l0, .val (.int x)] st h = zrun zP sv C 59 31 [l0, .val (.int x)] (.int x :: st) h := zx_go rfl rfl
theorem zs_59_31 : zrun zP sv C 59 31 [l0, l1] [v1, .ref b] h = zrc (h.1 b) 2 (zbk (C 20 [.ref b, v1] h) (fun v h' => zrun zP sv C 59 34 [l0, l1] (v.toList ++ []) h') (fun E h' => some (.inr E, h'))) := zx_cv (x0 := 2) rfl rfl rfl rfl rfl ⟨Nat.le_of_ble_eq_true rfl, rfl⟩ (fun _ _ => rfl)
theorem zs_59_34 : zrun zP sv C 59 34 [l0, l1] [.int x] h = zgd (zty 7 (.int x)) (some (.inl (some (.int x)), h)) := zx_rt rfl
theorem zs_60_0 : zrun zP sv C 60 0 [l0, .val (.int x), l2] st h = zrun zP sv C 60 1 [l0, .val (.int x), l2] (.int x :: st) h := zx_go rfl rfl
theorem zs_60_1 : zrun zP sv C 60 1 [l0, l1, l2] (.int x :: st) h = if x < 0 then zrun zP sv C 60 34 [l0, l1, l2] st h else zrun zP sv C 60 4 [l0, l1, l2] st h := (zx_if rfl rfl).trans zc2_if
theorem zs_60_4 : zrun zP sv C 60 4 [l0, l1, l2] st h = zrun zP sv C 60 5 [l0, l1, l2] (.int 0 :: st) h := zx_go rfl rfl
theorem zs_60_5 (hs : znw l2 = true) : zrun zP sv C 60 5 [l0, l1, l2] (.int x :: st) h = zrun zP sv C 60 6 [l0, l1, .val (.int x)] st h := zx_st hs rfl rfl rfl rfl rfl rfl
theorem zs_60_6 : zrun zP sv C 60 6 [l0, l1, .val (.int x)] st h = zrun zP sv C 60 7 [l0, l1, .val (.int x)] (.int x :: st) h := zx_go rfl rfl
theorem zs_60_7 : zrun zP sv C 60 7 [.val (.ref a), l1, l2] st h = zrun zP sv C 60 8 [.val (.ref a), l1, l2] (.ref a :: st) h := zx_go rfl rfl
theorem zs_60_8 : zrun zP sv C 60 8 [l0, l1, l2] (.ref a :: st) h = zfld (h.1 a) 1 2 (fun v => zrun zP sv C 60 11 [l0, l1, l2] (v :: st) h) := zx_getf rfl rfl
theorem zs_60_11 : zrun zP sv C 60 11 [l0, l1, l2] [.ref b, r0] h = zrc (h.1 b) 3 (zbk (C 169 [.ref b] h) (fun v h' => zrun zP sv C 60 14 [l0, l1, l2] (v.toList ++ [r0]) h') (fun E h' => some (.inr E, h'))) := zx_cv (x0 := 3) rfl rfl rfl rfl rfl ⟨Nat.le_of_ble_eq_true rfl, rfl⟩ (fun _ _ => rfl)
theorem zs_60_14 : zrun zP sv C 60 14 [l0, l1, l2] (.int y :: .int x :: st) h = if x < y then zrun zP sv C 60 17 [l0, l1, l2] st h else zrun zP sv C 60 34 [l0, l1, l2] st h := (zx_ic rfl rfl).trans zc3_if
theorem zs_60_17 : zrun zP sv C 60 17 [.val (.ref a), l1, l2] st h = zrun zP sv C 60 18 [.val (.ref a), l1, l2] (.ref a :: st) h := zx_go rfl rfl
theorem zs_60_18 : zrun zP sv C 60 18 [l0, l1, .val (.int x)] st h = zrun zP sv C 60 19 [l0, l1, .val (.int x)] (.int x :: st) h := zx_go rfl rfl
theorem zs_60_19 : zrun zP sv C 60 19 [l0, l1, l2] [v1, .ref b] h = zrc (h.1 b) 1 (zbk (C 80 [.ref b, v1] h) (fun v h' => zrun zP sv C 60 22 [l0, l1, l2] (v.toList ++ []) h') (fun E h' => some (.inr E, h'))) := zx_cv (x0 := 1) rfl rfl rfl rfl rfl ⟨Nat.le_of_ble_eq_true rfl, rfl⟩ (fun _ _ => rfl)
theorem zs_60_22 : zrun zP sv C 60 22 [l0, .val (.int x), l2] st h = zrun zP sv C 60 23 [l0, .val (.int x), l2] (.int x :: st) h := zx_go rfl rfl
theorem zs_60_23 : zrun zP sv C 60 23 [l0, l1, l2] (.int y :: .int x :: st) h = if x = y then zrun zP sv C 60 26 [l0, l1, l2] st h else zrun zP sv C 60 28 [l0, l1, l2] st h := (zx_ic rfl rfl).trans zc1_if
theorem zs_60_26 : zrun zP sv C 60 26 [l0, l1, .val (.int x)] st h = zrun zP sv C 60 27 [l0, l1, .val (.int x)] (.int x :: st) h := zx_go rfl rfl
theorem zs_60_27 : zrun zP sv C 60 27 [l0, l1, l2] [.int x] h = some (.inl (some (.int x)), h) := zx_end rfl rfl
theorem zs_60_28 : zrun zP sv C 60 28 [l0, l1, .val (.int x)] st h = zrun zP sv C 60 31 [l0, l1, .val (.int (x + (nI 1)))] st h := zx_ii rfl rfl rfl rfl rfl
theorem zs_60_31 : zrun zP sv C 60 31 [l0, l1, l2] st h = zrun zP sv C 60 6 [l0, l1, l2] st h := zx_go rfl rfl
theorem zs_60_34 : zrun zP sv C 60 34 [l0, l1, l2] [] h = some (.inr 4, znew h (0, []) 6) := zx_end rfl rfl
theorem zs_61_0 : zrun zP sv C 61 0 [.val (.ref a)] st h = zrun zP sv C 61 1 [.val (.ref a)] (.ref a :: st) h := zx_go rfl rfl
theorem zs_61_1 : zrun zP sv C 61 1 [l0] (.ref a :: st) h = zfld (h.1 a) 1 2 (fun v => zrun zP sv C 61 4 [l0] (v :: st) h) := zx_getf rfl rfl
theorem zs_61_4 : zrun zP sv C 61 4 [l0] [.ref b] h = zrc (h.1 b) 3 (zbk (C 172 [.ref b] h) (fun v h' => zrun zP sv C 61 7 [l0] (v.toList ++ []) h') (fun E h' => some (.inr E, h'))) := zx_cv (x0 := 3) rfl rfl rfl rfl rfl ⟨Nat.le_of_ble_eq_true rfl, rfl⟩ (fun _ _ => rfl)
theorem zs_61_7 : zrun zP sv C 61 7 [l0] [.int x] h = some (.inl (some (.int x)), h) := zx_end rfl rfl
theorem zs_62_0 : zrun zP sv C 62 0 [.val (.ref a), l1, l2, l3] st h = zrun zP sv C 62 1 [.val (.ref a), l1, l2, l3] (.ref a :: st) h := zx_go rfl rfl
theorem zs_62_1 : zrun zP sv C 62 1 [l0, l1, l2, l3] (.ref a :: st) h = zfld (h.1 a) 1 2 (fun v => zrun zP sv C 62 4 [l0, l1, l2, l3] (v :: st) h) := zx_getf rfl rfl
theorem zs_62_4 : zrun zP sv C 62 4 [l0, l1, l2, l3] [.ref b] h = zrc (h.1 b) 3 (zbk (C 169 [.ref b] h) (fun v h' => zrun zP sv C 62 7 [l0, l1, l2, l3] (v.toList ++ []) h') (fun E h' => some (.inr E, h'))) := zx_cv (x0 := 3) rfl rfl rfl rfl rfl ⟨Nat.le_of_ble_eq_true rfl, rfl⟩ (fun _ _ => rfl)
theorem zs_62_7 (hs : znw l1 = true) : zrun zP sv C 62 7 [l0, l1, l2, l3] (.int x :: st) h = zrun zP sv C 62 8 [l0, .val (.int x), l2, l3] st h := zx_st hs rfl rfl rfl rfl rfl rfl
theorem zs_62_8 : zrun zP sv C 62 8 [l0, .val (.int x), l2, l3] st h = zrun zP sv C 62 9 [l0, .val (.int x), l2, l3] (.int x :: st) h := zx_go rfl rfl
theorem zs_62_9 : zrun zP sv C 62 9 [l0, l1, l2, l3] (.int x :: st) h = if x = 0 then zrun zP sv C 62 12 [l0, l1, l2, l3] st h else zrun zP sv C 62 23 [l0, l1, l2, l3] st h := (zx_if rfl rfl).trans zc1_if
theorem zs_62_12 : zrun zP sv C 62 12 [l0, l1, l2, l3] [] h = some (.inr 5, znew h (0, []) 6) := zx_end rfl rfl
theorem zs_62_23 : zrun zP sv C 62 23 [l0, l1, l2, l3] st h = zrun zP sv C 62 24 [l0, l1, l2, l3] (.int 0 :: st) h := zx_go rfl rfl
theorem zs_62_24 (hs : znw l2 = true) : zrun zP sv C 62 24 [l0, l1, l2, l3] (.int x :: st) h = zrun zP sv C 62 25 [l0, l1, .val (.int x), l3] st h := zx_st hs rfl rfl rfl rfl rfl rfl
theorem zs_62_25 : zrun zP sv C 62 25 [l0, l1, l2, l3] st h = zrun zP sv C 62 26 [l0, l1, l2, l3] (.int 0 :: st) h := zx_go rfl rfl
theorem zs_62_26 (hs : znw l3 = true) : zrun zP sv C 62 26 [l0, l1, l2, l3] (.int x :: st) h = zrun zP sv C 62 27 [l0, l1, l2, .val (.int x)] st h := zx_st hs rfl rfl rfl rfl rfl rfl
theorem zs_62_27 : zrun zP sv C 62 27 [l0, l1, l2, .val (.int x)] st h = zrun zP sv C 62 28 [l0, l1, l2, .val (.int x)] (.int x :: st) h := zx_go rfl rfl
theorem zs_62_28 : zrun zP sv C 62 28 [l0, .val (.int x), l2, l3] st h = zrun zP sv C 62 29 [l0, .val (.int x), l2, l3] (.int x :: st) h := zx_go rfl rfl
theorem zs_62_29 : zrun zP sv C 62 29 [l0, l1, l2, l3] (.int y :: .int x :: st) h = if x < y then zrun zP sv C 62 32 [l0, l1, l2, l3] st h else zrun zP sv C 62 49 [l0, l1, l2, l3] st h := (zx_ic rfl rfl).trans zc3_if
theorem zs_62_32 : zrun zP sv C 62 32 [l0, l1, .val (.int x), l3] st h = zrun zP sv C 62 33 [l0, l1, .val (.int x), l3] (.int x :: st) h := zx_go rfl rfl
theorem zs_62_33 : zrun zP sv C 62 33 [.val (.ref a), l1, l2, l3] st h = zrun zP sv C 62 34 [.val (.ref a), l1, l2, l3] (.ref a :: st) h := zx_go rfl rfl
theorem zs_62_34 : zrun zP sv C 62 34 [l0, l1, l2, .val (.int x)] st h = zrun zP sv C 62 35 [l0, l1, l2, .val (.int x)] (.int x :: st) h := zx_go rfl rfl
theorem zs_62_35 : zrun zP sv C 62 35 [l0, l1, l2, l3] [v1, .ref b, r0] h = zrc (h.1 b) 1 (zbk (C 70 [.ref b, v1] h) (fun v h' => zrun zP sv C 62 38 [l0, l1, l2, l3] (v.toList ++ [r0]) h') (fun E h' => some (.inr E, h'))) := zx_cv (x0 := 1) rfl rfl rfl rfl rfl ⟨Nat.le_of_ble_eq_true rfl, rfl⟩ (fun _ _ => rfl)
theorem zs_62_38 : zrun zP sv C 62 38 [l0, l1, l2, l3] [.ref b, r0] h = zrc (h.1 b) 6 (zbk (C 182 [.ref b] h) (fun v h' => zrun zP sv C 62 41 [l0, l1, l2, l3] (v.toList ++ [r0]) h') (fun E h' => some (.inr E, h'))) := zx_cv (x0 := 6) rfl rfl rfl rfl rfl ⟨Nat.le_of_ble_eq_true rfl, rfl⟩ (fun _ _ => rfl)
theorem zs_62_41 : zrun zP sv C 62 41 [l0, l1, l2, l3] (.int y :: .int x :: st) h = zrun zP sv C 62 42 [l0, l1, l2, l3] (.int (x + y) :: st) h := zx_go rfl rfl
theorem zs_62_42 (hs : znw l2 = true) : zrun zP sv C 62 42 [l0, l1, l2, l3] (.int x :: st) h = zrun zP sv C 62 43 [l0, l1, .val (.int x), l3] st h := zx_st hs rfl rfl rfl rfl rfl rfl
theorem zs_62_43 : zrun zP sv C 62 43 [l0, l1, l2, .val (.int x)] st h = zrun zP sv C 62 46 [l0, l1, l2, .val (.int (x + (nI 1)))] st h := zx_ii rfl rfl rfl rfl rfl
theorem zs_62_46 : zrun zP sv C 62 46 [l0, l1, l2, l3] st h = zrun zP sv C 62 27 [l0, l1, l2, l3] st h := zx_go rfl rfl
theorem zs_62_49 : zrun zP sv C 62 49 [l0, l1, .val (.int x), l3] st h = zrun zP sv C 62 50 [l0, l1, .val (.int x), l3] (.int x :: st) h := zx_go rfl rfl
theorem zs_62_50 : zrun zP sv C 62 50 [l0, l1, l2, l3] (.int x :: st) h = zrun zP sv C 62 51 [l0, l1, l2, l3] (.double (FP.i2d x) :: st) h := zx_go rfl rfl
theorem zs_62_51 : zrun zP sv C 62 51 [l0, .val (.int x), l2, l3] st h = zrun zP sv C 62 52 [l0, .val (.int x), l2, l3] (.int x :: st) h := zx_go rfl rfl
theorem zs_62_52 : zrun zP sv C 62 52 [l0, l1, l2, l3] (.int x :: st) h = zrun zP sv C 62 53 [l0, l1, l2, l3] (.double (FP.i2d x) :: st) h := zx_go rfl rfl
theorem zs_62_53 : zrun zP sv C 62 53 [l0, l1, l2, l3] (.double xe :: .double xd :: st) h = zgd (decide (FP.ddiv xd xe &&& 0x7fffffffffffffff ≤ 0x7ff0000000000000)) (zrun zP sv C 62 54 [l0, l1, l2, l3] (.double (FP.ddiv xd xe) :: st) h) := zx_ddv rfl rfl
theorem zs_62_54 : zrun zP sv C 62 54 [l0, l1, l2, l3] [.double xd] h = some (.inl (some (.double xd)), h) := zx_end rfl rfl
theorem zs_63_0 : zrun zP sv C 63 0 [.val (.ref a), l1] st h = zrun zP sv C 63 1 [.val (.ref a), l1] (.ref a :: st) h := zx_go rfl rfl
theorem zs_63_1 : zrun zP sv C 63 1 [l0, l1] (.ref a :: st) h = zfld (h.1 a) 1 12 (fun v => zrun zP sv C 63 4 [l0, l1] (v :: st) h) := zx_getf rfl rfl
theorem zs_63_4 : zrun zP sv C 63 4 [.val (.ref a), l1] st h = zrun zP sv C 63 5 [.val (.ref a), l1] (.ref a :: st) h := zx_go rfl rfl
theorem zs_63_5 : zrun zP sv C 63 5 [l0, .val (.int x)] st h = zrun zP sv C 63 6 [l0, .val (.int x)] (.int x :: st) h := zx_go rfl rfl
theorem zs_63_6 : zrun zP sv C 63 6 [l0, l1] [v1, .ref b, r0] h = zrc (h.1 b) 1 (zbk (C 70 [.ref b, v1] h) (fun v h' => zrun zP sv C 63 9 [l0, l1] (v.toList ++ [r0]) h') (fun E h' => some (.inr E, h'))) := zx_cv (x0 := 1) rfl rfl rfl rfl rfl ⟨Nat.le_of_ble_eq_true rfl, rfl⟩ (fun _ _ => rfl)
theorem zs_63_9 : zrun zP sv C 63 9 [.val (.ref a), l1] st h = zrun zP sv C 63 10 [.val (.ref a), l1] (.ref a :: st) h := zx_go rfl rfl
theorem zs_63_10 : zrun zP sv C 63 10 [l0, l1] (.ref a :: st) h = zfld (h.1 a) 1 2 (fun v => zrun zP sv C 63 13 [l0, l1] (v :: st) h) := zx_getf rfl rfl
theorem zs_63_13 : zrun zP sv C 63 13 [l0, l1] [.ref b, r0, r1] h = zrc (h.1 b) 3 (zbk (C 171 [.ref b] h) (fun v h' => zrun zP sv C 63 16 [l0, l1] (v.toList ++ [r0, r1]) h') (fun E h' => some (.inr E, h'))) := zx_cv (x0 := 3) rfl rfl rfl rfl rfl ⟨Nat.le_of_ble_eq_true rfl, rfl⟩ (fun _ _ => rfl)
theorem zs_63_16 : zrun zP sv C 63 16 [l0, l1] [v2, v1, .ref b] h = zrc (h.1 b) 12 (zbk (C 107 [.ref b, v1, v2] h) (fun v h' => zrun zP sv C 63 19 [l0, l1] (v.toList ++ []) h') (fun E h' => some (.inr E, h'))) := zx_cv (x0 := 12) rfl rfl rfl rfl rfl ⟨Nat.le_of_ble_eq_true rfl, rfl⟩ (fun _ _ => rfl)
theorem zs_63_19 : zrun zP sv C 63 19 [.val (.ref a), l1] st h = zrun zP sv C 63 20 [.val (.ref a), l1] (.ref a :: st) h := zx_go rfl rfl
theorem zs_63_20 : zrun zP sv C 63 20 [l0, l1] (.ref a :: st) h = zfld (h.1 a) 1 12 (fun v => zrun zP sv C 63 23 [l0, l1] (v :: st) h) := zx_getf rfl rfl
theorem zs_63_23 : zrun zP sv C 63 23 [l0, l1] [.ref b] h = zrc (h.1 b) 12 (zbk (C 102 [.ref b] h) (fun v h' => zrun zP sv C 63 26 [l0, l1] (v.toList ++ []) h') (fun E h' => some (.inr E, h'))) := zx_cv (x0 := 12) rfl rfl rfl rfl rfl ⟨Nat.le_of_ble_eq_true rfl, rfl⟩ (fun _ _ => rfl)
theorem zs_63_26 : zrun zP sv C 63 26 [l0, l1] (.int x :: st) h = if x = 0 then zrun zP sv C 63 29 [l0, l1] st h else zrun zP sv C 63 31 [l0, l1] st h := (zx_if rfl rfl).trans zc1_if
theorem zs_63_29 : zrun zP sv C 63 29 [l0, l1] st h = zrun zP sv C 63 30 [l0, l1] (.float FP.fconst0 :: st) h := zx_go rfl rfl
theorem zs_63_30 : zrun zP sv C 63 30 [l0, l1] [.float xf] h = some (.inl (some (.float xf)), h) := zx_end rfl rfl
theorem zs_63_31 : zrun zP sv C 63 31 [.val (.ref a), l1] st h = zrun zP sv C 63 32 [.val (.ref a), l1] (.ref a :: st) h := zx_go rfl rfl
theorem zs_63_32 : zrun zP sv C 63 32 [l0, l1] (.ref a :: st) h = zfld (h.1 a) 1 12 (fun v => zrun zP sv C 63 35 [l0, l1] (v :: st) h) := zx_getf rfl rfl
theorem zs_63_35 : zrun zP sv C 63 35 [l0, l1] [.ref b] h = zrc (h.1 b) 12 (zbk (C 105 [.ref b] h) (fun v h' => zrun zP sv C 63 38 [l0, l1] (v.toList ++ []) h') (fun E h' => some (.inr E, h'))) := zx_cv (x0 := 12) rfl rfl rfl rfl rfl ⟨Nat.le_of_ble_eq_true rfl, rfl⟩ (fun _ _ => rfl)
theorem zs_63_38 : zrun zP sv C 63 38 [l0, l1] (.int x :: st) h = zrun zP sv C 63 39 [l0, l1] (.float (FP.i2f x) :: st) h := zx_go rfl rfl
theorem zs_63_39 : zrun zP sv C 63 39 [.val (.ref a), l1] st h = zrun zP sv C 63 40 [.val (.ref a), l1] (.ref a :: st) h := zx_go rfl rfl
theorem zs_63_40 : zrun zP sv C 63 40 [l0, l1] (.ref a :: st) h = zfld (h.1 a) 1 12 (fun v => zrun zP sv C 63 43 [l0, l1] (v :: st) h) := zx_getf rfl rfl
theorem zs_63_43 : zrun zP sv C 63 43 [l0, l1] [.ref b, r0] h = zrc (h.1 b) 12 (zbk (C 102 [.ref b] h) (fun v h' => zrun zP sv C 63 46 [l0, l1] (v.toList ++ [r0]) h') (fun E h' => some (.inr E, h'))) := zx_cv (x0 := 12) rfl rfl rfl rfl rfl ⟨Nat.le_of_ble_eq_true rfl, rfl⟩ (fun _ _ => rfl)
theorem zs_63_46 : zrun zP sv C 63 46 [l0, l1] (.int x :: st) h = zrun zP sv C 63 47 [l0, l1] (.float (FP.i2f x) :: st) h := zx_go rfl rfl
theorem zs_63_47 : zrun zP sv C 63 47 [l0, l1] (.float xg :: .float xf :: st) h = zgd (decide (FP.fdiv xf xg &&& 0x7fffffff ≤ 0x7f800000)) (zrun zP sv C 63 48 [l0, l1] (.float (FP.fdiv xf xg) :: st) h) := zx_fdv rfl rfl
theorem zs_63_48 : zrun zP sv C 63 48 [l0, l1] [.float xf] h = some (.inl (some (.float xf)), h) := zx_end rfl rfl
theorem zs_64_0 : zrun zP sv C 64 0 [l0, l1, l2, l3] st h = zrun zP sv C 64 1 [l0, l1, l2, l3] (.int 0 :: st) h := zx_go rfl rfl
theorem zs_64_1 (hs : znw l1 = true) : zrun zP sv C 64 1 [l0, l1, l2, l3] (.int x :: st) h = zrun zP sv C 64 2 [l0, .val (.int x), l2, l3] st h := zx_st hs rfl rfl rfl rfl rfl rfl
theorem zs_64_2 : zrun zP sv C 64 2 [l0, .val (.int x), l2, l3] st h = zrun zP sv C 64 3 [l0, .val (.int x), l2, l3] (.int x :: st) h := zx_go rfl rfl
theorem zs_64_3 : zrun zP sv C 64 3 [.val (.ref a), l1, l2, l3] st h = zrun zP sv C 64 4 [.val (.ref a), l1, l2, l3] (.ref a :: st) h := zx_go rfl rfl
theorem zs_64_4 : zrun zP sv C 64 4 [l0, l1, l2, l3] (.ref a :: st) h = zfld (h.1 a) 1 2 (fun v => zrun zP sv C 64 7 [l0, l1, l2, l3] (v :: st) h) := zx_getf rfl rfl
theorem zs_64_7 : zrun zP sv C 64 7 [l0, l1, l2, l3] [.ref b, r0] h = zrc (h.1 b) 3 (zbk (C 169 [.ref b] h) (fun v h' => zrun zP sv C 64 10 [l0, l1, l2, l3] (v.toList ++ [r0]) h') (fun E h' => some (.inr E, h'))) := zx_cv (x0 := 3) rfl rfl rfl rfl rfl ⟨Nat.le_of_ble_eq_true rfl, rfl⟩ (fun _ _ => rfl)
theorem zs_64_10 : zrun zP sv C 64 10 [l0, l1, l2, l3] (.int y :: .int x :: st) h = if x < y then zrun zP sv C 64 13 [l0, l1, l2, l3] st h else zrun zP sv C 64 103 [l0, l1, l2, l3] st h := (zx_ic rfl rfl).trans zc3_if
theorem zs_64_13 : zrun zP sv C 64 13 [.val (.ref a), l1, l2, l3] st h = zrun zP sv C 64 14 [.val (.ref a), l1, l2, l3] (.ref a :: st) h := zx_go rfl rfl
theorem zs_64_14 : zrun zP sv C 64 14 [l0, .val (.int x), l2, l3] st h = zrun zP sv C 64 15 [l0, .val (.int x), l2, l3] (.int x :: st) h := zx_go rfl rfl
theorem zs_64_15 : zrun zP sv C 64 15 [l0, l1, l2, l3] [v1, .ref b] h = zrc (h.1 b) 1 (zbk (C 70 [.ref b, v1] h) (fun v h' => zrun zP sv C 64 18 [l0, l1, l2, l3] (v.toList ++ []) h') (fun E h' => some (.inr E, h'))) := zx_cv (x0 := 1) rfl rfl rfl rfl rfl ⟨Nat.le_of_ble_eq_true rfl, rfl⟩ (fun _ _ => rfl)
theorem zs_64_18 (hs : znw l2 = true) : zrun zP sv C 64 18 [l0, l1, l2, l3] (.ref a :: st) h = zrun zP sv C 64 19 [l0, l1, .val (.ref a), l3] st h := zx_st hs rfl rfl rfl rfl rfl rfl
theorem zs_64_19 : zrun zP sv C 64 19 [.val (.ref a), l1, l2, l3] st h = zrun zP sv C 64 20 [.val (.ref a), l1, l2, l3] (.ref a :: st) h := zx_go rfl rfl
theorem zs_64_20 : zrun zP sv C 64 20 [l0, l1, l2, l3] (.ref a :: st) h = zfld (h.1 a) 1 10 (fun v => zrun zP sv C 64 23 [l0, l1, l2, l3] (v :: st) h) := zx_getf rfl rfl
theorem zs_64_23 : zrun zP sv C 64 23 [l0, l1, .val (.ref a), l3] st h = zrun zP sv C 64 24 [l0, l1, .val (.ref a), l3] (.ref a :: st) h := zx_go rfl rfl
theorem zs_64_24 : zrun zP sv C 64 24 [l0, l1, .val (.ref a), l3] st h = zrun zP sv C 64 25 [l0, l1, .val (.ref a), l3] (.ref a :: st) h := zx_go rfl rfl
theorem zs_64_25 : zrun zP sv C 64 25 [l0, l1, l2, l3] [.ref b, r0, r1] h = zrc (h.1 b) 6 (zbk (C 183 [.ref b] h) (fun v h' => zrun zP sv C 64 28 [l0, l1, l2, l3] (v.toList ++ [r0, r1]) h') (fun E h' => some (.inr E, h'))) := zx_cv (x0 := 6) rfl rfl rfl rfl rfl ⟨Nat.le_of_ble_eq_true rfl, rfl⟩ (fun _ _ => rfl)
theorem zs_64_28 : zrun zP sv C 64 28 [.val (.ref a), l1, l2, l3] st h = zrun zP sv C 64 29 [.val (.ref a), l1, l2, l3] (.ref a :: st) h := zx_go rfl rfl
theorem zs_64_29 : zrun zP sv C 64 29 [l0, l1, l2, l3] (.ref a :: st) h = zfld (h.1 a) 1 2 (fun v => zrun zP sv C 64 32 [l0, l1, l2, l3] (v :: st) h) := zx_getf rfl rfl
theorem zs_64_32 : zrun zP sv C 64 32 [l0, l1, l2, l3] [.ref b, r0, r1, r2] h = zrc (h.1 b) 3 (zbk (C 170 [.ref b] h) (fun v h' => zrun zP sv C 64 35 [l0, l1, l2, l3] (v.toList ++ [r0, r1, r2]) h') (fun E h' => some (.inr E, h'))) := zx_cv (x0 := 3) rfl rfl rfl rfl rfl ⟨Nat.le_of_ble_eq_true rfl, rfl⟩ (fun _ _ => rfl)
theorem zs_64_35 : zrun zP sv C 64 35 [l0, l1, l2, l3] [v3, v2, v1, .ref b] h = zrc (h.1 b) 10 (zbk (C 121 [.ref b, v1, v2, v3] h) (fun v h' => zrun zP sv C 64 38 [l0, l1, l2, l3] (v.toList ++ []) h') (fun E h' => some (.inr E, h'))) := zx_cv (x0 := 10) rfl rfl rfl rfl rfl ⟨Nat.le_of_ble_eq_true rfl, rfl⟩ (fun _ _ => rfl)
theorem zs_64_38 : zrun zP sv C 64 38 [.val (.ref a), l1, l2, l3] st h = zrun zP sv C 64 39 [.val (.ref a), l1, l2, l3] (.ref a :: st) h := zx_go rfl rfl
theorem zs_64_39 : zrun zP sv C 64 39 [l0, l1, .val (.ref a), l3] st h = zrun zP sv C 64 40 [l0, l1, .val (.ref a), l3] (.ref a :: st) h := zx_go rfl rfl
theorem zs_64_40 : zrun zP sv C 64 40 [l0, l1, l2, l3] [v1, .ref b, r0] h = zrc (h.1 b) 1 (zbk (C 76 [.ref b, v1] h) (fun v h' => zrun zP sv C 64 43 [l0, l1, l2, l3] (v.toList ++ [r0]) h') (fun E h' => some (.inr E, h'))) := zx_cv (x0 := 1) rfl rfl rfl rfl rfl ⟨Nat.le_of_ble_eq_true rfl, rfl⟩ (fun _ _ => rfl)
theorem zs_64_43 : zrun zP sv C 64 43 [l0, l1, l2, l3] (.int y :: .int x :: st) h = if x = y then zrun zP sv C 64 46 [l0, l1, l2, l3] st h else zrun zP sv C 64 89 [l0, l1, l2, l3] st h := (zx_ic rfl rfl).trans zc1_if
theorem zs_64_46 : zrun zP sv C 64 46 [.val (.ref a), l1, l2, l3] st h = zrun zP sv C 64 47 [.val (.ref a), l1, l2, l3] (.ref a :: st) h := zx_go rfl rfl
theorem zs_64_47 : zrun zP sv C 64 47 [l0, l1, .val (.ref a), l3] st h = zrun zP sv C 64 48 [l0, l1, .val (.ref a), l3] (.ref a :: st) h := zx_go rfl rfl
theorem zs_64_48 : zrun zP sv C 64 48 [l0, l1, l2, l3] [v1, .ref b] h = zrc (h.1 b) 1 (zbk (C 77 [.ref b, v1] h) (fun v h' => zrun zP sv C 64 51 [l0, l1, l2, l3] (v.toList ++ []) h') (fun E h' => some (.inr E, h'))) := zx_cv (x0 := 1) rfl rfl rfl rfl rfl ⟨Nat.le_of_ble_eq_true rfl, rfl⟩ (fun _ _ => rfl)
theorem zs_64_51 : zrun zP sv C 64 51 [l0, l1, .val (.ref a), l3] st h = zrun zP sv C 64 52 [l0, l1, .val (.ref a), l3] (.ref a :: st) h := zx_go rfl rfl
theorem zs_64_52 : zrun zP sv C 64 52 [l0, l1, l2, l3] [v0, r0] h = zbk (C 78 [v0] h) (fun v h' => zrun zP sv C 64 55 [l0, l1, l2, l3] (v.toList ++ [r0]) h') (fun E h' => some (.inr E, h')) := zx_cs rfl rfl rfl rfl ⟨Nat.le_of_ble_eq_true rfl, rfl⟩ (fun _ _ => rfl)
theorem zs_64_55 : zrun zP sv C 64 55 [l0, l1, l2, l3] (.int y :: .int x :: st) h = if x = y then zrun zP sv C 64 58 [l0, l1, l2, l3] st h else zrun zP sv C 64 89 [l0, l1, l2, l3] st h := (zx_ic rfl rfl).trans zc1_if
theorem zs_64_58 : zrun zP sv C 64 58 [.val (.ref a), l1, l2, l3] st h = zrun zP sv C 64 59 [.val (.ref a), l1, l2, l3] (.ref a :: st) h := zx_go rfl rfl
theorem zs_64_59 : zrun zP sv C 64 59 [l0, l1, l2, l3] (.ref a :: st) h = zfld (h.1 a) 1 10 (fun v => zrun zP sv C 64 62 [l0, l1, l2, l3] (v :: st) h) := zx_getf rfl rfl
theorem zs_64_62 : zrun zP sv C 64 62 [l0, l1, .val (.ref a), l3] st h = zrun zP sv C 64 63 [l0, l1, .val (.ref a), l3] (.ref a :: st) h := zx_go rfl rfl
theorem zs_64_63 : zrun zP sv C 64 63 [l0, l1, l2, l3] [v1, .ref b] h = zrc (h.1 b) 10 (zbk (C 125 [.ref b, v1] h) (fun v h' => zrun zP sv C 64 66 [l0, l1, l2, l3] (v.toList ++ []) h') (fun E h' => some (.inr E, h'))) := zx_cv (x0 := 10) rfl rfl rfl rfl rfl ⟨Nat.le_of_ble_eq_true rfl, rfl⟩ (fun _ _ => rfl)
theorem zs_64_66 : zrun zP sv C 64 66 [.val (.ref a), l1, l2, l3] st h = zrun zP sv C 64 67 [.val (.ref a), l1, l2, l3] (.ref a :: st) h := zx_go rfl rfl
theorem zs_64_67 : zrun zP sv C 64 67 [l0, l1, l2, l3] (.ref a :: st) h = zfld (h.1 a) 1 10 (fun v => zrun zP sv C 64 70 [l0, l1, l2, l3] (v :: st) h) := zx_getf rfl rfl
theorem zs_64_70 : zrun zP sv C 64 70 [l0, l1, .val (.ref a), l3] st h = zrun zP sv C 64 71 [l0, l1, .val (.ref a), l3] (.ref a :: st) h := zx_go rfl rfl
theorem zs_64_71 : zrun zP sv C 64 71 [l0, l1, l2, l3] [v1, .ref b, r0] h = zrc (h.1 b) 10 (zbk (C 128 [.ref b, v1] h) (fun v h' => zrun zP sv C 64 74 [l0, l1, l2, l3] (v.toList ++ [r0]) h') (fun E h' => some (.inr E, h'))) := zx_cv (x0 := 10) rfl rfl rfl rfl rfl ⟨Nat.le_of_ble_eq_true rfl, rfl⟩ (fun _ _ => rfl)
theorem zs_64_74 : zrun zP sv C 64 74 [l0, l1, l2, l3] (.int y :: .int x :: st) h = if x = y then zrun zP sv C 64 77 [l0, l1, l2, l3] st h else zrun zP sv C 64 89 [l0, l1, l2, l3] st h := (zx_ic rfl rfl).trans zc1_if
theorem zs_64_77 : zrun zP sv C 64 77 [.val (.ref a), l1, l2, l3] st h = zrun zP sv C 64 78 [.val (.ref a), l1, l2, l3] (.ref a :: st) h := zx_go rfl rfl
theorem zs_64_78 : zrun zP sv C 64 78 [l0, l1, .val (.ref a), l3] st h = zrun zP sv C 64 79 [l0, l1, .val (.ref a), l3] (.ref a :: st) h := zx_go rfl rfl
theorem zs_64_79 : zrun zP sv C 64 79 [l0, l1, l2, l3] [v1, .ref b] h = zrc (h.1 b) 1 (zbk (C 82 [.ref b, v1] h) (fun v h' => zrun zP sv C 64 82 [l0, l1, l2, l3] (v.toList ++ []) h') (fun E h' => some (.inr E, h'))) := zx_cv (x0 := 1) rfl rfl rfl rfl rfl ⟨Nat.le_of_ble_eq_true rfl, rfl⟩ (fun _ _ => rfl)
theorem zs_64_82 : zrun zP sv C 64 82 [l0, l1, l2, l3] (.int x :: st) h = if x = 0 then zrun zP sv C 64 89 [l0, l1, l2, l3] st h else zrun zP sv C 64 85 [l0, l1, l2, l3] st h := (zx_if rfl rfl).trans zc0_if
theorem zs_64_85 : zrun zP sv C 64 85 [l0, l1, l2, l3] st h = zrun zP sv C 64 86 [l0, l1, l2, l3] (.int (nI 1) :: st) h := zx_go rfl rfl
theorem zs_64_86 : zrun zP sv C 64 86 [l0, l1, l2, l3] st h = zrun zP sv C 64 90 [l0, l1, l2, l3] st h := zx_go rfl rfl
theorem zs_64_89 : zrun zP sv C 64 89 [l0, l1, l2, l3] st h = zrun zP sv C 64 90 [l0, l1, l2, l3] (.int 0 :: st) h := zx_go rfl rfl
theorem zs_64_90 (hs : znw l3 = true) : zrun zP sv C 64 90 [l0, l1, l2, l3] (.int x :: st) h = zrun zP sv C 64 91 [l0, l1, l2, .val (.int x)] st h := zx_st hs rfl rfl rfl rfl rfl rfl
theorem zs_64_91 : zrun zP sv C 64 91 [l0, l1, l2, .val (.int x)] st h = zrun zP sv C 64 92 [l0, l1, l2, .val (.int x)] (.int x :: st) h := zx_go rfl rfl
theorem zs_64_92 : zrun zP sv C 64 92 [l0, l1, l2, l3] (.int x :: st) h = if x = 0 then zrun zP sv C 64 95 [l0, l1, l2, l3] st h else zrun zP sv C 64 97 [l0, l1, l2, l3] st h := (zx_if rfl rfl).trans zc1_if
theorem zs_64_95 : zrun zP sv C 64 95 [l0, l1, l2, l3] st h = zrun zP sv C 64 96 [l0, l1, l2, l3] (.int 0 :: st) h := zx_go rfl rfl
theorem zs_64_96 : zrun zP sv C 64 96 [l0, l1, l2, l3] [.int x] h = zgd (zty 5 (.int x)) (some (.inl (some (.int x)), h)) := zx_rt rfl
theorem zs_64_97 : zrun zP sv C 64 97 [l0, .val (.int x), l2, l3] st h = zrun zP sv C 64 100 [l0, .val (.int (x + (nI 1))), l2, l3] st h := zx_ii rfl rfl rfl rfl rfl
theorem zs_64_100 : zrun zP sv C 64 100 [l0, l1, l2, l3] st h = zrun zP sv C 64 2 [l0, l1, l2, l3] st h := zx_go rfl rfl
theorem zs_64_103 : zrun zP sv C 64 103 [l0, l1, l2, l3] st h = zrun zP sv C 64 104 [l0, l1, l2, l3] (.int (nI 1) :: st) h := zx_go rfl rfl
theorem zs_64_104 : zrun zP sv C 64 104 [l0, l1, l2, l3] [.int x] h = zgd (zty 5 (.int x)) (some (.inl (some (.int x)), h)) := zx_rt rfl
theorem zs_65_0 : zrun zP sv C 65 0 [.val (.ref a)] st h = zrun zP sv C 65 1 [.val (.ref a)] (.ref a :: st) h := zx_go rfl rfl
theorem zs_65_1 : zrun zP sv C 65 1 [l0] (.ref a :: st) h = zfld (h.1 a) 1 1 (fun v => zrun zP sv C 65 4 [l0] (v :: st) h) := zx_getf rfl rfl
theorem zs_65_4 : zrun zP sv C 65 4 [l0] st h = zrun zP sv C 65 5 [l0] (.int (-1) :: st) h := zx_go rfl rfl
theorem zs_65_5 : zrun zP sv C 65 5 [l0] (.int y :: .int x :: st) h = if x = y then zrun zP sv C 65 8 [l0] st h else zrun zP sv C 65 19 [l0] st h := (zx_ic rfl rfl).trans zc1_if
theorem zs_65_8 : zrun zP sv C 65 8 [l0] [] h = some (.inr 4, znew h (0, []) 6) := zx_end rfl rfl
theorem zs_65_19 : zrun zP sv C 65 19 [.val (.ref a)] st h = zrun zP sv C 65 20 [.val (.ref a)] (.ref a :: st) h := zx_go rfl rfl
theorem zs_65_20 : zrun zP sv C 65 20 [l0] (.ref a :: st) h = zfld (h.1 a) 1 1 (fun v => zrun zP sv C 65 23 [l0] (v :: st) h) := zx_getf rfl rfl
theorem zs_65_23 : zrun zP sv C 65 23 [l0] [.int x] h = some (.inl (some (.int x)), h) := zx_end rfl rfl
theorem zs_66_0 : zrun zP sv C 66 0 [.val (.ref a)] st h = zrun zP sv C 66 1 [.val (.ref a)] (.ref a :: st) h := zx_go rfl rfl
theorem zs_66_1 : zrun zP sv C 66 1 [l0] (.ref a :: st) h = zfld (h.1 a) 1 5 (fun v => zrun zP sv C 66 4 [l0] (v :: st) h) := zx_getf rfl rfl
theorem zs_66_4 : zrun zP sv C 66 4 [l0] [.ref b] h = zrc (h.1 b) 5 (zbk (C 131 [.ref b] h) (fun v h' => zrun zP sv C 66 7 [l0] (v.toList ++ []) h') (fun E h' => some (.inr E, h'))) := zx_cv (x0 := 5) rfl rfl rfl rfl rfl ⟨Nat.le_of_ble_eq_true rfl, rfl⟩ (fun _ _ => rfl)
theorem zs_66_7 : zrun zP sv C 66 7 [l0] [.int x] h = some (.inl (some (.int x)), h) := zx_end rfl rfl
theorem zs_67_0 : zrun zP sv C 67 0 [.val (.ref a)] st h = zrun zP sv C 67 1 [.val (.ref a)] (.ref a :: st) h := zx_go rfl rfl
theorem zs_67_1 : zrun zP sv C 67 1 [l0] (.ref a :: st) h = zfld (h.1 a) 1 5 (fun v => zrun zP sv C 67 4 [l0] (v :: st) h) := zx_getf rfl rfl
theorem zs_67_4 : zrun zP sv C 67 4 [l0] [.ref b] h = zrc (h.1 b) 5 (zbk (C 131 [.ref b] h) (fun v h' => zrun zP sv C 67 7 [l0] (v.toList ++ []) h') (fun E h' => some (.inr E, h'))) := zx_cv (x0 := 5) rfl rfl rfl rfl rfl ⟨Nat.le_of_ble_eq_true rfl, rfl⟩ (fun _ _ => rfl)
theorem zs_67_7 : zrun zP sv C 67 7 [l0] (.int x :: st) h = if x = 0 then zrun zP sv C 67 10 [l0] st h else zrun zP sv C 67 21 [l0] st h := (zx_if rfl rfl).trans zc1_if
theorem zs_67_10 : zrun zP sv C 67 10 [l0] [] h = some (.inr 0, znew h (0, []) 6) := zx_end rfl rfl
theorem zs_67_21 : zrun zP sv C 67 21 [.val (.ref a)] st h = zrun zP sv C 67 22 [.val (.ref a)] (.ref a :: st) h := zx_go rfl rfl
theorem zs_67_22 : zrun zP sv C 67 22 [l0] (.ref a :: st) h = zfld (h.1 a) 1 5 (fun v => zrun zP sv C 67 25 [l0] (v :: st) h) := zx_getf rfl rfl
theorem zs_67_25 : zrun zP sv C 67 25 [.val (.ref a)] st h = zrun zP sv C 67 26 [.val (.ref a)] (.ref a :: st) h := zx_go rfl rfl
theorem zs_67_26 : zrun zP sv C 67 26 [l0] (.ref a :: st) h = zfld (h.1 a) 1 2 (fun v => zrun zP sv C 67 29 [l0] (v :: st) h) := zx_getf rfl rfl
theorem zs_67_29 : zrun zP sv C 67 29 [l0] [v1, .ref b] h = zrc (h.1 b) 5 (zbk (C 133 [.ref b, v1] h) (fun v h' => zrun zP sv C 67 32 [l0] (v.toList ++ []) h') (fun E h' => some (.inr E, h'))) := zx_cv (x0 := 5) rfl rfl rfl rfl rfl ⟨Nat.le_of_ble_eq_true rfl, rfl⟩ (fun _ _ => rfl)
theorem zs_67_32 : zrun zP sv C 67 32 [.val (.ref a)] st h = zrun zP sv C 67 33 [.val (.ref a)] (.ref a :: st) h := zx_go rfl rfl
theorem zs_67_33 : zrun zP sv C 67 33 [l0] (.ref a :: st) h = zfld (h.1 a) 1 5 (fun v => zrun zP sv C 67 36 [l0] (v :: st) h) := zx_getf rfl rfl
theorem zs_67_36 : zrun zP sv C 67 36 [l0] [.ref b] h = zrc (h.1 b) 5 (zbk (C 131 [.ref b] h) (fun v h' => zrun zP sv C 67 39 [l0] (v.toList ++ []) h') (fun E h' => some (.inr E, h'))) := zx_cv (x0 := 5) rfl rfl rfl rfl rfl ⟨Nat.le_of_ble_eq_true rfl, rfl⟩ (fun _ _ => rfl)
theorem zs_67_39 : zrun zP sv C 67 39 [l0] [.int x] h = some (.inl (some (.int x)), h) := zx_end rfl rfl
theorem zs_68_0 : zrun zP sv C 68 0 [.val (.ref a)] st h = zrun zP sv C 68 1 [.val (.ref a)] (.ref a :: st) h := zx_go rfl rfl
theorem zs_68_1 : zrun zP sv C 68 1 [l0] (.ref a :: st) h = zfld (h.1 a) 1 3 (fun v => zrun zP sv C 68 4 [l0] (v :: st) h) := zx_getf rfl rfl
theorem zs_68_4 : zrun zP sv C 68 4 [.val (.ref a)] st h = zrun zP sv C 68 5 [.val (.ref a)] (.ref a :: st) h := zx_go rfl rfl
theorem zs_68_5 : zrun zP sv C 68 5 [l0] (.ref a :: st) h = zfld (h.1 a) 1 2 (fun v => zrun zP sv C 68 8 [l0] (v :: st) h) := zx_getf rfl rfl
theorem zs_68_8 : zrun zP sv C 68 8 [l0] [v1, .ref b] h = zrc (h.1 b) 3 (zbk (C 180 [.ref b, v1] h) (fun v h' => zrun zP sv C 68 11 [l0] (v.toList ++ []) h') (fun E h' => some (.inr E, h'))) := zx_cv (x0 := 3) rfl rfl rfl rfl rfl ⟨Nat.le_of_ble_eq_true rfl, rfl⟩ (fun _ _ => rfl)
theorem zs_68_11 : zrun zP sv C 68 11 [.val (.ref a)] st h = zrun zP sv C 68 12 [.val (.ref a)] (.ref a :: st) h := zx_go rfl rfl
theorem zs_68_12 : zrun zP sv C 68 12 [l0] st h = zrun zP sv C 68 13 [l0] (.int (nI 1) :: st) h := zx_go rfl rfl
theorem zs_68_13 : zrun zP sv C 68 13 [l0] (.int x :: .ref a :: st) h = zpfd (h.1 a) 1 4 5 (.int x) (fun c => zrun zP sv C 68 16 [l0] st (zup h a c)) := zx_putf (x0 := 5) rfl rfl
theorem zs_68_16 : zrun zP sv C 68 16 [.val (.ref a)] st h = zrun zP sv C 68 17 [.val (.ref a)] (.ref a :: st) h := zx_go rfl rfl
theorem zs_68_17 : zrun zP sv C 68 17 [l0] (.ref a :: st) h = zfld (h.1 a) 1 2 (fun v => zrun zP sv C 68 20 [l0] (v :: st) h) := zx_getf rfl rfl
theorem zs_68_20 : zrun zP sv C 68 20 [l0] [.ref b] h = zrc (h.1 b) 3 (zbk (C 169 [.ref b] h) (fun v h' => zrun zP sv C 68 23 [l0] (v.toList ++ []) h') (fun E h' => some (.inr E, h'))) := zx_cv (x0 := 3) rfl rfl rfl rfl rfl ⟨Nat.le_of_ble_eq_true rfl, rfl⟩ (fun _ _ => rfl)
theorem zs_68_23 : zrun zP sv C 68 23 [l0] [.int x] h = some (.inl (some (.int x)), h) := zx_end rfl rfl
theorem zs_69_0 : zrun zP sv C 69 0 [.val (.ref a)] st h = zrun zP sv C 69 1 [.val (.ref a)] (.ref a :: st) h := zx_go rfl rfl
theorem zs_69_1 : zrun zP sv C 69 1 [l0] (.ref a :: st) h = zfld (h.1 a) 1 4 (fun v => zrun zP sv C 69 4 [l0] (v :: st) h) := zx_getf rfl rfl
theorem zs_69_4 : zrun zP sv C 69 4 [l0] (.int x :: st) h = if x = 0 then zrun zP sv C 69 7 [l0] st h else zrun zP sv C 69 18 [l0] st h := (zx_if rfl rfl).trans zc1_if
theorem zs_69_7 : zrun zP sv C 69 7 [l0] [] h = some (.inr 0, znew h (0, []) 6) := zx_end rfl rfl
theorem zs_69_18 : zrun zP sv C 69 18 [.val (.ref a)] st h = zrun zP sv C 69 19 [.val (.ref a)] (.ref a :: st) h := zx_go rfl rfl
theorem zs_69_19 : zrun zP sv C 69 19 [l0] (.ref a :: st) h = zfld (h.1 a) 1 2 (fun v => zrun zP sv C 69 22 [l0] (v :: st) h) := zx_getf rfl rfl
theorem zs_69_22 : zrun zP sv C 69 22 [.val (.ref a)] st h = zrun zP sv C 69 23 [.val (.ref a)] (.ref a :: st) h := zx_go rfl rfl
theorem zs_69_23 : zrun zP sv C 69 23 [l0] (.ref a :: st) h = zfld (h.1 a) 1 3 (fun v => zrun zP sv C 69 26 [l0] (v :: st) h) := zx_getf rfl rfl
theorem zs_69_26 : zrun zP sv C 69 26 [l0] [v1, .ref b] h = zrc (h.1 b) 3 (zbk (C 180 [.ref b, v1] h) (fun v h' => zrun zP sv C 69 29 [l0] (v.toList ++ []) h') (fun E h' => some (.inr E, h'))) := zx_cv (x0 := 3) rfl rfl rfl rfl rfl ⟨Nat.le_of_ble_eq_true rfl, rfl⟩ (fun _ _ => rfl)
theorem zs_69_29 : zrun zP sv C 69 29 [.val (.ref a)] st h = zrun zP sv C 69 30 [.val (.ref a)] (.ref a :: st) h := zx_go rfl rfl
theorem zs_69_30 : zrun zP sv C 69 30 [l0] (.ref a :: st) h = zfld (h.1 a) 1 5 (fun v => zrun zP sv C 69 33 [l0] (v :: st) h) := zx_getf rfl rfl
theorem zs_69_33 : zrun zP sv C 69 33 [l0] [.ref b] h = zrc (h.1 b) 5 (zbk (C 134 [.ref b] h) (fun v h' => zrun zP sv C 69 36 [l0] (v.toList ++ []) h') (fun E h' => some (.inr E, h'))) := zx_cv (x0 := 5) rfl rfl rfl rfl rfl ⟨Nat.le_of_ble_eq_true rfl, rfl⟩ (fun _ _ => rfl)
theorem zs_69_36 : zrun zP sv C 69 36 [.val (.ref a)] st h = zrun zP sv C 69 37 [.val (.ref a)] (.ref a :: st) h := zx_go rfl rfl
theorem zs_69_37 : zrun zP sv C 69 37 [l0] (.ref a :: st) h = zfld (h.1 a) 1 2 (fun v => zrun zP sv C 69 40 [l0] (v :: st) h) := zx_getf rfl rfl
theorem zs_69_40 : zrun zP sv C 69 40 [l0] [.ref b] h = zrc (h.1 b) 3 (zbk (C 169 [.ref b] h) (fun v h' => zrun zP sv C 69 43 [l0] (v.toList ++ []) h') (fun E h' => some (.inr E, h'))) := zx_cv (x0 := 3) rfl rfl rfl rfl rfl ⟨Nat.le_of_ble_eq_true rfl, rfl⟩ (fun _ _ => rfl)
theorem zs_69_43 : zrun zP sv C 69 43 [l0] [.int x] h = some (.inl (some (.int x)), h) := zx_end rfl rfl
theorem zs_70_0 : zrun zP sv C 70 0 [.val (.ref a), l1, l2] st h = zrun zP sv C 70 1 [.val (.ref a), l1, l2] (.ref a :: st) h := zx_go rfl rfl
theorem zs_70_0n : zrun zP sv C 70 0 [.val .null, l1, l2] st h = zrun zP sv C 70 1 [.val .null, l1, l2] (.null :: st) h := zx_go rfl rfl
theorem zs_70_1 : zrun zP sv C 70 1 [l0, l1, l2] (.ref a :: st) h = zfld (h.1 a) 1 2 (fun v => zrun zP sv C 70 4 [l0, l1, l2] (v :: st) h) := zx_getf rfl rfl
theorem zs_70_4 : zrun zP sv C 70 4 [l0, .val (.int x), l2] st h = zrun zP sv C 70 5 [l0, .val (.int x), l2] (.int x :: st) h := zx_go rfl rfl
theorem zs_70_5 : zrun zP sv C 70 5 [l0, l1, l2] [v1, .ref b] h = zrc (h.1 b) 3 (zbk (C 173 [.ref b, v1] h) (fun v h' => zrun zP sv C 70 8 [l0, l1, l2] (v.toList ++ []) h') (fun E h' => some (.inr E, h'))) := zx_cv (x0 := 3) rfl rfl rfl rfl rfl ⟨Nat.le_of_ble_eq_true rfl, rfl⟩ (fun _ _ => rfl)
theorem zs_70_8 (hs : znw l2 = true) : zrun zP sv C 70 8 [l0, l1, l2] (.ref a :: st) h = zrun zP sv C 70 9 [l0, l1, .val (.ref a)] st h := zx_st hs rfl rfl rfl rfl rfl rfl
theorem zs_70_8n (hs : znw l2 = true) : zrun zP sv C 70 8 [l0, l1, l2] (.null :: st) h = zrun zP sv C 70 9 [l0, l1, .val (.null)] st h := zx_st hs rfl rfl rfl rfl rfl rfl
theorem zs_70_9 : zrun zP sv C 70 9 [l0, l1, .val (.ref a)] st h = zrun zP sv C 70 10 [l0, l1, .val (.ref a)] (.ref a :: st) h := zx_go rfl rfl
theorem zs_70_9n : zrun zP sv C 70 9 [l0, l1, .val .null] st h = zrun zP sv C 70 10 [l0, l1, .val .null] (.null :: st) h := zx_go rfl rfl
theorem zs_70_10 : zrun zP sv C 70 10 [l0, l1, l2] (.ref a :: st) h = zrun zP sv C 70 24 [l0, l1, l2] st h := zx_go rfl rfl
theorem zs_70_10n : zrun zP sv C 70 10 [l0, l1, l2] (.null :: st) h = zrun zP sv C 70 13 [l0, l1, l2] st h := zx_go rfl rfl
theorem zs_70_13 : zrun zP sv C 70 13 [l0, l1, l2] [] h = some (.inr 2, znew h (0, []) 6) := zx_end rfl rfl
theorem zs_70_24 : zrun zP sv C 70 24 [l0, l1, .val (.ref a)] st h = zrun zP sv C 70 25 [l0, l1, .val (.ref a)] (.ref a :: st) h := zx_go rfl rfl
theorem zs_70_24n : zrun zP sv C 70 24 [l0, l1, .val .null] st h = zrun zP sv C 70 25 [l0, l1, .val .null] (.null :: st) h := zx_go rfl rfl
theorem zs_70_25 : zrun zP sv C 70 25 [l0, l1, l2] [.ref a] h = some (.inl (some (.ref a)), h) := zx_end rfl rfl
theorem zs_70_25n : zrun zP sv C 70 25 [l0, l1, l2] [.null] h = some (.inl (some (.null)), h) := zx_end rfl rfl
theorem zs_71_0 : zrun zP sv C 71 0 [l0, .val (.int x)] st h = zrun zP sv C 71 1 [l0, .val (.int x)] (.int x :: st) h := zx_go rfl rfl
theorem zs_71_1 : zrun zP sv C 71 1 [l0, l1] (.int x :: st) h = if x < 0 then zrun zP sv C 71 15 [l0, l1] st h else zrun zP sv C 71 4 [l0, l1] st h := (zx_if rfl rfl).trans zc2_if
theorem zs_71_4 : zrun zP sv C 71 4 [l0, .val (.int x)] st h = zrun zP sv C 71 5 [l0, .val (.int x)] (.int x :: st) h := zx_go rfl rfl
theorem zs_71_5 : zrun zP sv C 71 5 [.val (.ref a), l1] st h = zrun zP sv C 71 6 [.val (.ref a), l1] (.ref a :: st) h := zx_go rfl rfl
theorem zs_71_6 : zrun zP sv C 71 6 [l0, l1] (.ref a :: st) h = zfld (h.1 a) 1 12 (fun v => zrun zP sv C 71 9 [l0, l1] (v :: st) h) := zx_getf rfl rfl
theorem zs_71_9 : zrun zP sv C 71 9 [l0, l1] [.ref b, r0] h = zrc (h.1 b) 12 (zbk (C 102 [.ref b] h) (fun v h' => zrun zP sv C 71 12 [l0, l1] (v.toList ++ [r0]) h') (fun E h' => some (.inr E, h'))) := zx_cv (x0 := 12) rfl rfl rfl rfl rfl ⟨Nat.le_of_ble_eq_true rfl, rfl⟩ (fun _ _ => rfl)
theorem zs_71_12 : zrun zP sv C 71 12 [l0, l1] (.int y :: .int x :: st) h = if x < y then zrun zP sv C 71 26 [l0, l1] st h else zrun zP sv C 71 15 [l0, l1] st h := (zx_ic rfl rfl).trans zc2_if
theorem zs_71_15 : zrun zP sv C 71 15 [l0, l1] [] h = some (.inr 2, znew h (0, []) 6) := zx_end rfl rfl
theorem zs_71_26 : zrun zP sv C 71 26 [l0, l1] [] h = some (.inl none, h) := zx_end rfl rfl
theorem zs_72_0 : zrun zP sv C 72 0 [.val (.int x)] st h = zrun zP sv C 72 1 [.val (.int x)] (.int x :: st) h := zx_go rfl rfl
theorem zs_72_1 : zrun zP sv C 72 1 [l0] st h = zrun zP sv C 72 3 [l0] (.int (nI 97) :: st) h := zx_go rfl rfl
theorem zs_72_3 : zrun zP sv C 72 3 [l0] (.int y :: .int x :: st) h = if x < y then zrun zP sv C 72 12 [l0] st h else zrun zP sv C 72 6 [l0] st h := (zx_ic rfl rfl).trans zc2_if
theorem zs_72_6 : zrun zP sv C 72 6 [.val (.int x)] st h = zrun zP sv C 72 7 [.val (.int x)] (.int x :: st) h := zx_go rfl rfl
theorem zs_72_7 : zrun zP sv C 72 7 [l0] st h = zrun zP sv C 72 9 [l0] (.int (nI 102) :: st) h := zx_go rfl rfl
theorem zs_72_9 : zrun zP sv C 72 9 [l0] (.int y :: .int x :: st) h = if y < x then zrun zP sv C 72 12 [l0] st h else zrun zP sv C 72 23 [l0] st h := (zx_ic rfl rfl).trans zc5_if
theorem zs_72_12 : zrun zP sv C 72 12 [l0] [] h = some (.inr 1, znew h (0, []) 6) := zx_end rfl rfl
theorem zs_72_23 : zrun zP sv C 72 23 [l0] [] h = some (.inl none, h) := zx_end rfl rfl
theorem zs_73_0 : zrun zP sv C 73 0 [.val (.ref a)] st h = zrun zP sv C 73 1 [.val (.ref a)] (.ref a :: st) h := zx_go rfl rfl
theorem zs_73_1 : zrun zP sv C 73 1 [l0] (.ref a :: st) h = zfld (h.1 a) 1 2 (fun v => zrun zP sv C 73 4 [l0] (v :: st) h) := zx_getf rfl rfl
theorem zs_73_4 : zrun zP sv C 73 4 [l0] [.ref b] h = zrc (h.1 b) 3 (zbk (C 169 [.ref b] h) (fun v h' => zrun zP sv C 73 7 [l0] (v.toList ++ []) h') (fun E h' => some (.inr E, h'))) := zx_cv (x0 := 3) rfl rfl rfl rfl rfl ⟨Nat.le_of_ble_eq_true rfl, rfl⟩ (fun _ _ => rfl)
theorem zs_73_7 : zrun zP sv C 73 7 [l0] st h = zrun zP sv C 73 9 [l0] (.int (nI 6) :: st) h := zx_go rfl rfl
theorem zs_73_9 : zrun zP sv C 73 9 [l0] (.int y :: .int x :: st) h = if x < y then zrun zP sv C 73 23 [l0] st h else zrun zP sv C 73 12 [l0] st h := (zx_ic rfl rfl).trans zc2_if
theorem zs_73_12 : zrun zP sv C 73 12 [l0] [] h = some (.inr 0, znew h (0, []) 6) := zx_end rfl rfl
theorem zs_73_23 : zrun zP sv C 73 23 [l0] [] h = some (.inl none, h) := zx_end rfl rfl
theorem zs_74_0 : zrun zP sv C 74 0 [.val (.ref a), l1, l2] st h = zrun zP sv C 74 1 [.val (.ref a), l1, l2] (.ref a :: st) h := zx_go rfl rfl
theorem zs_74_1 : zrun zP sv C 74 1 [l0, l1, l2] (.ref a :: st) h = zfld (h.1 a) 1 10 (fun v => zrun zP sv C 74 4 [l0, l1, l2] (v :: st) h) := zx_getf rfl rfl
theorem zs_74_4 : zrun zP sv C 74 4 [l0, .val (.ref a), l2] st h = zrun zP sv C 74 5 [l0, .val (.ref a), l2] (.ref a :: st) h := zx_go rfl rfl
theorem zs_74_5 : zrun zP sv C 74 5 [l0, l1, .val (.int x)] st h = zrun zP sv C 74 6 [l0, l1, .val (.int x)] (.int x :: st) h := zx_go rfl rfl
theorem zs_74_6 : zrun zP sv C 74 6 [l0, l1, l2] [v2, v1, .ref b] h = zrc (h.1 b) 10 (zbk (C 117 [.ref b, v1, v2] h) (fun v h' => zrun zP sv C 74 9 [l0, l1, l2] (v.toList ++ []) h') (fun E h' => some (.inr E, h'))) := zx_cv (x0 := 10) rfl rfl rfl rfl rfl ⟨Nat.le_of_ble_eq_true rfl, rfl⟩ (fun _ _ => rfl)
theorem zs_74_9 : zrun zP sv C 74 9 [l0, l1, l2] st h = zrun zP sv C 74 11 [l0, l1, l2] (.int (nI 31) :: st) h := zx_go rfl rfl
theorem zs_74_11 : zrun zP sv C 74 11 [l0, l1, l2] (.int y :: .int x :: st) h = if y < x then zrun zP sv C 74 28 [l0, l1, l2] st h else zrun zP sv C 74 14 [l0, l1, l2] st h := (zx_ic rfl rfl).trans zc4_if
theorem zs_74_14 : zrun zP sv C 74 14 [.val (.ref a), l1, l2] st h = zrun zP sv C 74 15 [.val (.ref a), l1, l2] (.ref a :: st) h := zx_go rfl rfl
theorem zs_74_15 : zrun zP sv C 74 15 [l0, l1, l2] (.ref a :: st) h = zfld (h.1 a) 1 10 (fun v => zrun zP sv C 74 18 [l0, l1, l2] (v :: st) h) := zx_getf rfl rfl
theorem zs_74_18 : zrun zP sv C 74 18 [l0, .val (.ref a), l2] st h = zrun zP sv C 74 19 [l0, .val (.ref a), l2] (.ref a :: st) h := zx_go rfl rfl
theorem zs_74_19 : zrun zP sv C 74 19 [l0, l1, .val (.int x)] st h = zrun zP sv C 74 20 [l0, l1, .val (.int x)] (.int x :: st) h := zx_go rfl rfl
theorem zs_74_20 : zrun zP sv C 74 20 [l0, l1, l2] [v2, v1, .ref b] h = zrc (h.1 b) 10 (zbk (C 118 [.ref b, v1, v2] h) (fun v h' => zrun zP sv C 74 23 [l0, l1, l2] (v.toList ++ []) h') (fun E h' => some (.inr E, h'))) := zx_cv (x0 := 10) rfl rfl rfl rfl rfl ⟨Nat.le_of_ble_eq_true rfl, rfl⟩ (fun _ _ => rfl)
theorem zs_74_23 : zrun zP sv C 74 23 [l0, l1, l2] st h = zrun zP sv C 74 25 [l0, l1, l2] (.int (nI 8) :: st) h := zx_go rfl rfl
theorem zs_74_25 : zrun zP sv C 74 25 [l0, l1, l2] (.int y :: .int x :: st) h = if y < x then zrun zP sv C 74 28 [l0, l1, l2] st h else zrun zP sv C 74 39 [l0, l1, l2] st h := (zx_ic rfl rfl).trans zc5_if
theorem zs_74_28 : zrun zP sv C 74 28 [l0, l1, l2] [] h = some (.inr 3, znew h (0, []) 6) := zx_end rfl rfl
theorem zs_74_39 : zrun zP sv C 74 39 [l0, l1, l2] [] h = some (.inl none, h) := zx_end rfl rfl
theorem zs_75_0 : zrun zP sv C 75 0 [l0, l1, l2, l3] st h = zrun zP sv C 75 3 [l0, l1, l2, l3] (.ref h.2.1 :: st) (znew h (6, [.null, .null, .null, .null, .int 0, .int 0]) 6) := zx_go rfl rfl
theorem zs_75_3 : zrun zP sv C 75 3 [l0, l1, l2, l3] (.ref a :: st) h = zrun zP sv C 75 4 [l0, l1, l2, l3] (.ref a :: .ref a :: st) h := zx_go rfl rfl
theorem zs_75_4 : zrun zP sv C 75 4 [.val (.ref a), l1, l2, l3] st h = zrun zP sv C 75 5 [.val (.ref a), l1, l2, l3] (.ref a :: st) h := zx_go rfl rfl
theorem zs_75_5 : zrun zP sv C 75 5 [l0, l1, l2, l3] (.ref a :: st) h = zfld (h.1 a) 1 10 (fun v => zrun zP sv C 75 8 [l0, l1, l2, l3] (v :: st) h) := zx_getf rfl rfl
theorem zs_75_8 : zrun zP sv C 75 8 [l0, .val (.ref a), l2, l3] st h = zrun zP sv C 75 9 [l0, .val (.ref a), l2, l3] (.ref a :: st) h := zx_go rfl rfl
theorem zs_75_9 : zrun zP sv C 75 9 [l0, l1, .val (.int x), l3] st h = zrun zP sv C 75 10 [l0, l1, .val (.int x), l3] (.int x :: st) h := zx_go rfl rfl
theorem zs_75_10 : zrun zP sv C 75 10 [l0, l1, l2, l3] [v2, v1, .ref b, r0, r1] h = zrc (h.1 b) 10 (zbk (C 117 [.ref b, v1, v2] h) (fun v h' => zrun zP sv C 75 13 [l0, l1, l2, l3] (v.toList ++ [r0, r1]) h') (fun E h' => some (.inr E, h'))) := zx_cv (x0 := 10) rfl rfl rfl rfl rfl ⟨Nat.le_of_ble_eq_true rfl, rfl⟩ (fun _ _ => rfl)
theorem zs_75_13 : zrun zP sv C 75 13 [l0, l1, l2, l3] [v1, .ref b, r0] h = zrc (h.1 b) 6 (zbk (C 181 [.ref b, v1] h) (fun v h' => zrun zP sv C 75 16 [l0, l1, l2, l3] (v.toList ++ [r0]) h') (fun E h' => some (.inr E, h'))) := zx_cv (x0 := 6) rfl rfl rfl rfl rfl ⟨Nat.le_of_ble_eq_true rfl, rfl⟩ (fun _ _ => rfl)
theorem zs_75_16 (hs : znw l3 = true) : zrun zP sv C 75 16 [l0, l1, l2, l3] (.ref a :: st) h = zrun zP sv C 75 17 [l0, l1, l2, .val (.ref a)] st h := zx_st hs rfl rfl rfl rfl rfl rfl
theorem zs_75_17 : zrun zP sv C 75 17 [l0, .val (.ref a), l2, l3] st h = zrun zP sv C 75 18 [l0, .val (.ref a), l2, l3] (.ref a :: st) h := zx_go rfl rfl
theorem zs_75_18 : zrun zP sv C 75 18 [l0, l1, .val (.int x), l3] st h = zrun zP sv C 75 19 [l0, l1, .val (.int x), l3] (.int x :: st) h := zx_go rfl rfl
theorem zs_75_19 : zrun zP sv C 75 19 [l0, l1, l2, .val (.ref a)] st h = zrun zP sv C 75 20 [l0, l1, l2, .val (.ref a)] (.ref a :: st) h := zx_go rfl rfl
theorem zs_75_20 : zrun zP sv C 75 20 [l0, l1, l2, l3] st h = zrun zP sv C 75 21 [l0, l1, l2, l3] (.int (nI 1) :: st) h := zx_go rfl rfl
theorem zs_75_21 : zrun zP sv C 75 21 [l0, l1, l2, l3] [v3, v2, v1, v0] h = zbk (C 86 [v0, v1, v2, v3] h) (fun v h' => zrun zP sv C 75 24 [l0, l1, l2, l3] (v.toList ++ []) h') (fun E h' => some (.inr E, h')) := zx_cs rfl rfl rfl rfl ⟨Nat.le_of_ble_eq_true rfl, rfl⟩ (fun _ _ => rfl)
theorem zs_75_24 : zrun zP sv C 75 24 [l0, l1, l2, l3] (.int x :: st) h = zrun zP sv C 75 25 [l0, l1, l2, l3] st h := zx_go rfl rfl
theorem zs_75_25 : zrun zP sv C 75 25 [l0, l1, l2, .val (.ref a)] st h = zrun zP sv C 75 26 [l0, l1, l2, .val (.ref a)] (.ref a :: st) h := zx_go rfl rfl
theorem zs_75_26 : zrun zP sv C 75 26 [l0, l1, l2, l3] [.ref a] h = some (.inl (some (.ref a)), h) := zx_end rfl rfl
theorem zs_76_0 : zrun zP sv C 76 0 [.val (.ref a), l1] st h = zrun zP sv C 76 1 [.val (.ref a), l1] (.ref a :: st) h := zx_go rfl rfl
theorem zs_76_1 : zrun zP sv C 76 1 [l0, l1] (.ref a :: st) h = zfld (h.1 a) 1 12 (fun v => zrun zP sv C 76 4 [l0, l1] (v :: st) h) := zx_getf rfl rfl
theorem zs_76_4 : zrun zP sv C 76 4 [l0, .val (.ref a)] st h = zrun zP sv C 76 5 [l0, .val (.ref a)] (.ref a :: st) h := zx_go rfl rfl
theorem zs_76_5 : zrun zP sv C 76 5 [.val (.ref a), l1] st h = zrun zP sv C 76 6 [.val (.ref a), l1] (.ref a :: st) h := zx_go rfl rfl
theorem zs_76_6 : zrun zP sv C 76 6 [l0, l1] (.ref a :: st) h = zfld (h.1 a) 1 2 (fun v => zrun zP sv C 76 9 [l0, l1] (v :: st) h) := zx_getf rfl rfl
theorem zs_76_9 : zrun zP sv C 76 9 [l0, l1] [.ref b, r0, r1] h = zrc (h.1 b) 3 (zbk (C 171 [.ref b] h) (fun v h' => zrun zP sv C 76 12 [l0, l1] (v.toList ++ [r0, r1]) h') (fun E h' => some (.inr E, h'))) := zx_cv (x0 := 3) rfl rfl rfl rfl rfl ⟨Nat.le_of_ble_eq_true rfl, rfl⟩ (fun _ _ => rfl)
theorem zs_76_12 : zrun zP sv C 76 12 [l0, l1] [v2, v1, .ref b] h = zrc (h.1 b) 12 (zbk (C 107 [.ref b, v1, v2] h) (fun v h' => zrun zP sv C 76 15 [l0, l1] (v.toList ++ []) h') (fun E h' => some (.inr E, h'))) := zx_cv (x0 := 12) rfl rfl rfl rfl rfl ⟨Nat.le_of_ble_eq_true rfl, rfl⟩ (fun _ _ => rfl)
theorem zs_76_15 : zrun zP sv C 76 15 [.val (.ref a), l1] st h = zrun zP sv C 76 16 [.val (.ref a), l1] (.ref a :: st) h := zx_go rfl rfl
theorem zs_76_16 : zrun zP sv C 76 16 [l0, l1] (.ref a :: st) h = zfld (h.1 a) 1 12 (fun v => zrun zP sv C 76 19 [l0, l1] (v :: st) h) := zx_getf rfl rfl
theorem zs_76_19 : zrun zP sv C 76 19 [.val (.ref a), l1] st h = zrun zP sv C 76 20 [.val (.ref a), l1] (.ref a :: st) h := zx_go rfl rfl
theorem zs_76_20 : zrun zP sv C 76 20 [l0, l1] (.ref a :: st) h = zfld (h.1 a) 1 2 (fun v => zrun zP sv C 76 23 [l0, l1] (v :: st) h) := zx_getf rfl rfl
theorem zs_76_23 : zrun zP sv C 76 23 [l0, l1] [.ref b, r0] h = zrc (h.1 b) 3 (zbk (C 170 [.ref b] h) (fun v h' => zrun zP sv C 76 26 [l0, l1] (v.toList ++ [r0]) h') (fun E h' => some (.inr E, h'))) := zx_cv (x0 := 3) rfl rfl rfl rfl rfl ⟨Nat.le_of_ble_eq_true rfl, rfl⟩ (fun _ _ => rfl)
theorem zs_76_26 : zrun zP sv C 76 26 [l0, l1] [v1, .ref b] h = zrc (h.1 b) 12 (zbk (C 112 [.ref b, v1] h) (fun v h' => zrun zP sv C 76 29 [l0, l1] (v.toList ++ []) h') (fun E h' => some (.inr E, h'))) := zx_cv (x0 := 12) rfl rfl rfl rfl rfl ⟨Nat.le_of_ble_eq_true rfl, rfl⟩ (fun _ _ => rfl)
theorem zs_76_29 : zrun zP sv C 76 29 [l0, l1] [.int x] h = some (.inl (some (.int x)), h) := zx_end rfl rfl
theorem zs_77_0 : zrun zP sv C 77 0 [.val (.ref a), l1] st h = zrun zP sv C 77 1 [.val (.ref a), l1] (.ref a :: st) h := zx_go rfl rfl
theorem zs_77_1 : zrun zP sv C 77 1 [l0, l1] (.ref a :: st) h = zfld (h.1 a) 1 11 (fun v => zrun zP sv C 77 4 [l0, l1] (v :: st) h) := zx_getf rfl rfl
theorem zs_77_4 : zrun zP sv C 77 4 [l0, l1] [.ref b] h = zrc (h.1 b) 11 (zbk (C 143 [.ref b] h) (fun v h' => zrun zP sv C 77 7 [l0, l1] (v.toList ++ []) h') (fun E h' => some (.inr E, h'))) := zx_cv (x0 := 11) rfl rfl rfl rfl rfl ⟨Nat.le_of_ble_eq_true rfl, rfl⟩ (fun _ _ => rfl)
theorem zs_77_7 : zrun zP sv C 77 7 [.val (.ref a), l1] st h = zrun zP sv C 77 8 [.val (.ref a), l1] (.ref a :: st) h := zx_go rfl rfl
theorem zs_77_8 : zrun zP sv C 77 8 [l0, l1] (.ref a :: st) h = zfld (h.1 a) 1 11 (fun v => zrun zP sv C 77 11 [l0, l1] (v :: st) h) := zx_getf rfl rfl
theorem zs_77_11 : zrun zP sv C 77 11 [l0, .val (.ref a)] st h = zrun zP sv C 77 12 [l0, .val (.ref a)] (.ref a :: st) h := zx_go rfl rfl
theorem zs_77_12 : zrun zP sv C 77 12 [l0, l1] [v1, .ref b] h = zrc (h.1 b) 11 (zbk (C 145 [.ref b, v1] h) (fun v h' => zrun zP sv C 77 15 [l0, l1] (v.toList ++ []) h') (fun E h' => some (.inr E, h'))) := zx_cv (x0 := 11) rfl rfl rfl rfl rfl ⟨Nat.le_of_ble_eq_true rfl, rfl⟩ (fun _ _ => rfl)
theorem zs_77_15 : zrun zP sv C 77 15 [.val (.ref a), l1] st h = zrun zP sv C 77 16 [.val (.ref a), l1] (.ref a :: st) h := zx_go rfl rfl
theorem zs_77_16 : zrun zP sv C 77 16 [l0, l1] (.ref a :: st) h = zfld (h.1 a) 1 11 (fun v => zrun zP sv C 77 19 [l0, l1] (v :: st) h) := zx_getf rfl rfl
theorem zs_77_19 : zrun zP sv C 77 19 [l0, l1] [.ref b] h = zrc (h.1 b) 11 (zbk (C 144 [.ref b] h) (fun v h' => zrun zP sv C 77 22 [l0, l1] (v.toList ++ []) h') (fun E h' => some (.inr E, h'))) := zx_cv (x0 := 11) rfl rfl rfl rfl rfl ⟨Nat.le_of_ble_eq_true rfl, rfl⟩ (fun _ _ => rfl)
theorem zs_77_22 : zrun zP sv C 77 22 [l0, l1] [.int x] h = some (.inl (some (.int x)), h) := zx_end rfl rfl
theorem zs_78_0 : zrun zP sv C 78 0 [l0, l1, l2] st h = zrun zP sv C 78 1 [l0, l1, l2] (.int 0 :: st) h := zx_go rfl rfl
theorem zs_78_1 (hs : znw l1 = true) : zrun zP sv C 78 1 [l0, l1, l2] (.int x :: st) h = zrun zP sv C 78 2 [l0, .val (.int x), l2] st h := zx_st hs rfl rfl rfl rfl rfl rfl
theorem zs_78_2 : zrun zP sv C 78 2 [l0, l1, l2] st h = zrun zP sv C 78 3 [l0, l1, l2] (.int 0 :: st) h := zx_go rfl rfl
theorem zs_78_3 (hs : znw l2 = true) : zrun zP sv C 78 3 [l0, l1, l2] (.int x :: st) h = zrun zP sv C 78 4 [l0, l1, .val (.int x)] st h := zx_st hs rfl rfl rfl rfl rfl rfl
theorem zs_78_4 : zrun zP sv C 78 4 [l0, l1, .val (.int x)] st h = zrun zP sv C 78 5 [l0, l1, .val (.int x)] (.int x :: st) h := zx_go rfl rfl
theorem zs_78_5 : zrun zP sv C 78 5 [.val (.ref a), l1, l2] st h = zrun zP sv C 78 6 [.val (.ref a), l1, l2] (.ref a :: st) h := zx_go rfl rfl
theorem zs_78_6 : zrun zP sv C 78 6 [l0, l1, l2] [.ref b, r0] h = zrc (h.1 b) 6 (zbk (C 182 [.ref b] h) (fun v h' => zrun zP sv C 78 9 [l0, l1, l2] (v.toList ++ [r0]) h') (fun E h' => some (.inr E, h'))) := zx_cv (x0 := 6) rfl rfl rfl rfl rfl ⟨Nat.le_of_ble_eq_true rfl, rfl⟩ (fun _ _ => rfl)
theorem zs_78_9 : zrun zP sv C 78 9 [l0, l1, l2] (.int y :: .int x :: st) h = if x < y then zrun zP sv C 78 12 [l0, l1, l2] st h else zrun zP sv C 78 29 [l0, l1, l2] st h := (zx_ic rfl rfl).trans zc3_if
theorem zs_78_12 : zrun zP sv C 78 12 [.val (.ref a), l1, l2] st h = zrun zP sv C 78 13 [.val (.ref a), l1, l2] (.ref a :: st) h := zx_go rfl rfl
theorem zs_78_13 : zrun zP sv C 78 13 [l0, l1, .val (.int x)] st h = zrun zP sv C 78 14 [l0, l1, .val (.int x)] (.int x :: st) h := zx_go rfl rfl
theorem zs_78_14 : zrun zP sv C 78 14 [l0, l1, l2] [v1, v0] h = zbk (C 79 [v0, v1] h) (fun v h' => zrun zP sv C 78 17 [l0, l1, l2] (v.toList ++ []) h') (fun E h' => some (.inr E, h')) := zx_cs rfl rfl rfl rfl ⟨Nat.le_of_ble_eq_true rfl, rfl⟩ (fun _ _ => rfl)
theorem zs_78_17 : zrun zP sv C 78 17 [l0, l1, l2] (.int x :: st) h = if x = 0 then zrun zP sv C 78 23 [l0, l1, l2] st h else zrun zP sv C 78 20 [l0, l1, l2] st h := (zx_if rfl rfl).trans zc0_if
theorem zs_78_20 : zrun zP sv C 78 20 [l0, .val (.int x), l2] st h = zrun zP sv C 78 23 [l0, .val (.int (x + (nI 1))), l2] st h := zx_ii rfl rfl rfl rfl rfl
theorem zs_78_23 : zrun zP sv C 78 23 [l0, l1, .val (.int x)] st h = zrun zP sv C 78 26 [l0, l1, .val (.int (x + (nI 1)))] st h := zx_ii rfl rfl rfl rfl rfl
theorem zs_78_26 : zrun zP sv C 78 26 [l0, l1, l2] st h = zrun zP sv C 78 4 [l0, l1, l2] st h := zx_go rfl rfl
theorem zs_78_29 : zrun zP sv C 78 29 [l0, .val (.int x), l2] st h = zrun zP sv C 78 30 [l0, .val (.int x), l2] (.int x :: st) h := zx_go rfl rfl
theorem zs_78_30 : zrun zP sv C 78 30 [l0, l1, l2] [.int x] h = some (.inl (some (.int x)), h) := zx_end rfl rfl
theorem zs_79_0 : zrun zP sv C 79 0 [l0, l1, l2] st h = zrun zP sv C 79 1 [l0, l1, l2] (.int 0 :: st) h := zx_go rfl rfl
theorem zs_79_1 (hs : znw l2 = true) : zrun zP sv C 79 1 [l0, l1, l2] (.int x :: st) h = zrun zP sv C 79 2 [l0, l1, .val (.int x)] st h := zx_st hs rfl rfl rfl rfl rfl rfl
theorem zs_79_2 : zrun zP sv C 79 2 [l0, l1, .val (.int x)] st h = zrun zP sv C 79 3 [l0, l1, .val (.int x)] (.int x :: st) h := zx_go rfl rfl
theorem zs_79_3 : zrun zP sv C 79 3 [l0, .val (.int x), l2] st h = zrun zP sv C 79 4 [l0, .val (.int x), l2] (.int x :: st) h := zx_go rfl rfl
theorem zs_79_4 : zrun zP sv C 79 4 [l0, l1, l2] (.int y :: .int x :: st) h = if x < y then zrun zP sv C 79 7 [l0, l1, l2] st h else zrun zP sv C 79 26 [l0, l1, l2] st h := (zx_ic rfl rfl).trans zc3_if
theorem zs_79_7 : zrun zP sv C 79 7 [.val (.ref a), l1, l2] st h = zrun zP sv C 79 8 [.val (.ref a), l1, l2] (.ref a :: st) h := zx_go rfl rfl
theorem zs_79_8 : zrun zP sv C 79 8 [l0, .val (.int x), l2] st h = zrun zP sv C 79 9 [l0, .val (.int x), l2] (.int x :: st) h := zx_go rfl rfl
theorem zs_79_9 : zrun zP sv C 79 9 [.val (.ref a), l1, l2] st h = zrun zP sv C 79 10 [.val (.ref a), l1, l2] (.ref a :: st) h := zx_go rfl rfl
theorem zs_79_10 : zrun zP sv C 79 10 [l0, l1, .val (.int x)] st h = zrun zP sv C 79 11 [l0, l1, .val (.int x)] (.int x :: st) h := zx_go rfl rfl
theorem zs_79_11 : zrun zP sv C 79 11 [l0, l1, l2] st h = zrun zP sv C 79 12 [l0, l1, l2] (.int (nI 1) :: st) h := zx_go rfl rfl
theorem zs_79_12 : zrun zP sv C 79 12 [l0, l1, l2] [v4, v3, v2, v1, v0] h = zbk (C 85 [v0, v1, v2, v3, v4] h) (fun v h' => zrun zP sv C 79 15 [l0, l1, l2] (v.toList ++ []) h') (fun E h' => some (.inr E, h')) := zx_cs rfl rfl rfl rfl ⟨Nat.le_of_ble_eq_true rfl, rfl⟩ (fun _ _ => rfl)
theorem zs_79_15 : zrun zP sv C 79 15 [l0, l1, l2] (.int x :: st) h = if x = 0 then zrun zP sv C 79 20 [l0, l1, l2] st h else zrun zP sv C 79 18 [l0, l1, l2] st h := (zx_if rfl rfl).trans zc0_if
theorem zs_79_18 : zrun zP sv C 79 18 [l0, l1, l2] st h = zrun zP sv C 79 19 [l0, l1, l2] (.int 0 :: st) h := zx_go rfl rfl
theorem zs_79_19 : zrun zP sv C 79 19 [l0, l1, l2] [.int x] h = zgd (zty 5 (.int x)) (some (.inl (some (.int x)), h)) := zx_rt rfl
theorem zs_79_20 : zrun zP sv C 79 20 [l0, l1, .val (.int x)] st h = zrun zP sv C 79 23 [l0, l1, .val (.int (x + (nI 1)))] st h := zx_ii rfl rfl rfl rfl rfl
theorem zs_79_23 : zrun zP sv C 79 23 [l0, l1, l2] st h = zrun zP sv C 79 2 [l0, l1, l2] st h := zx_go rfl rfl
theorem zs_79_26 : zrun zP sv C 79 26 [l0, l1, l2] st h = zrun zP sv C 79 27 [l0, l1, l2] (.int (nI 1) :: st) h := zx_go rfl rfl
theorem zs_79_27 : zrun zP sv C 79 27 [l0, l1, l2] [.int x] h = zgd (zty 5 (.int x)) (some (.inl (some (.int x)), h)) := zx_rt rfl
theorem zs_80_0 : zrun zP sv C 80 0 [l0, l1, l2, l3] st h = zrun zP sv C 80 1 [l0, l1, l2, l3] (.int 0 :: st) h := zx_go rfl rfl
theorem zs_80_1 (hs : znw l2 = true) : zrun zP sv C 80 1 [l0, l1, l2, l3] (.int x :: st) h = zrun zP sv C 80 2 [l0, l1, .val (.int x), l3] st h := zx_st hs rfl rfl rfl rfl rfl rfl
theorem zs_80_2 : zrun zP sv C 80 2 [l0, l1, l2, l3] st h = zrun zP sv C 80 3 [l0, l1, l2, l3] (.int 0 :: st) h := zx_go rfl rfl
theorem zs_80_3 (hs : znw l3 = true) : zrun zP sv C 80 3 [l0, l1, l2, l3] (.int x :: st) h = zrun zP sv C 80 4 [l0, l1, l2, .val (.int x)] st h := zx_st hs rfl rfl rfl rfl rfl rfl
theorem zs_80_4 : zrun zP sv C 80 4 [l0, l1, l2, .val (.int x)] st h = zrun zP sv C 80 5 [l0, l1, l2, .val (.int x)] (.int x :: st) h := zx_go rfl rfl
theorem zs_80_5 : zrun zP sv C 80 5 [.val (.ref a), l1, l2, l3] st h = zrun zP sv C 80 6 [.val (.ref a), l1, l2, l3] (.ref a :: st) h := zx_go rfl rfl
theorem zs_80_6 : zrun zP sv C 80 6 [l0, l1, l2, l3] (.ref a :: st) h = zfld (h.1 a) 1 2 (fun v => zrun zP sv C 80 9 [l0, l1, l2, l3] (v :: st) h) := zx_getf rfl rfl
theorem zs_80_9 : zrun zP sv C 80 9 [l0, l1, l2, l3] [.ref b, r0] h = zrc (h.1 b) 3 (zbk (C 169 [.ref b] h) (fun v h' => zrun zP sv C 80 12 [l0, l1, l2, l3] (v.toList ++ [r0]) h') (fun E h' => some (.inr E, h'))) := zx_cv (x0 := 3) rfl rfl rfl rfl rfl ⟨Nat.le_of_ble_eq_true rfl, rfl⟩ (fun _ _ => rfl)
theorem zs_80_12 : zrun zP sv C 80 12 [l0, l1, l2, l3] (.int y :: .int x :: st) h = if x < y then zrun zP sv C 80 15 [l0, l1, l2, l3] st h else zrun zP sv C 80 38 [l0, l1, l2, l3] st h := (zx_ic rfl rfl).trans zc3_if
theorem zs_80_15 : zrun zP sv C 80 15 [l0, l1, l2, .val (.int x)] st h = zrun zP sv C 80 16 [l0, l1, l2, .val (.int x)] (.int x :: st) h := zx_go rfl rfl
theorem zs_80_16 : zrun zP sv C 80 16 [l0, .val (.int x), l2, l3] st h = zrun zP sv C 80 17 [l0, .val (.int x), l2, l3] (.int x :: st) h := zx_go rfl rfl
theorem zs_80_17 : zrun zP sv C 80 17 [l0, l1, l2, l3] (.int y :: .int x :: st) h = if x = y then zrun zP sv C 80 32 [l0, l1, l2, l3] st h else zrun zP sv C 80 20 [l0, l1, l2, l3] st h := (zx_ic rfl rfl).trans zc0_if
theorem zs_80_20 : zrun zP sv C 80 20 [.val (.ref a), l1, l2, l3] st h = zrun zP sv C 80 21 [.val (.ref a), l1, l2, l3] (.ref a :: st) h := zx_go rfl rfl
theorem zs_80_21 : zrun zP sv C 80 21 [l0, l1, l2, .val (.int x)] st h = zrun zP sv C 80 22 [l0, l1, l2, .val (.int x)] (.int x :: st) h := zx_go rfl rfl
theorem zs_80_22 : zrun zP sv C 80 22 [l0, .val (.int x), l2, l3] st h = zrun zP sv C 80 23 [l0, .val (.int x), l2, l3] (.int x :: st) h := zx_go rfl rfl
theorem zs_80_23 : zrun zP sv C 80 23 [l0, l1, l2, l3] [v2, v1, .ref b] h = zrc (h.1 b) 1 (zbk (C 81 [.ref b, v1, v2] h) (fun v h' => zrun zP sv C 80 26 [l0, l1, l2, l3] (v.toList ++ []) h') (fun E h' => some (.inr E, h'))) := zx_cv (x0 := 1) rfl rfl rfl rfl rfl ⟨Nat.le_of_ble_eq_true rfl, rfl⟩ (fun _ _ => rfl)
theorem zs_80_26 : zrun zP sv C 80 26 [l0, l1, l2, l3] (.int x :: st) h = if x = 0 then zrun zP sv C 80 32 [l0, l1, l2, l3] st h else zrun zP sv C 80 29 [l0, l1, l2, l3] st h := (zx_if rfl rfl).trans zc0_if
theorem zs_80_29 : zrun zP sv C 80 29 [l0, l1, .val (.int x), l3] st h = zrun zP sv C 80 32 [l0, l1, .val (.int (x + (nI 1))), l3] st h := zx_ii rfl rfl rfl rfl rfl
theorem zs_80_32 : zrun zP sv C 80 32 [l0, l1, l2, .val (.int x)] st h = zrun zP sv C 80 35 [l0, l1, l2, .val (.int (x + (nI 1)))] st h := zx_ii rfl rfl rfl rfl rfl
theorem zs_80_35 : zrun zP sv C 80 35 [l0, l1, l2, l3] st h = zrun zP sv C 80 4 [l0, l1, l2, l3] st h := zx_go rfl rfl
theorem zs_80_38 : zrun zP sv C 80 38 [l0, l1, .val (.int x), l3] st h = zrun zP sv C 80 39 [l0, l1, .val (.int x), l3] (.int x :: st) h := zx_go rfl rfl
theorem zs_80_39 : zrun zP sv C 80 39 [l0, l1, l2, l3] [.int x] h = some (.inl (some (.int x)), h) := zx_end rfl rfl
theorem zs_81_0 : zrun zP sv C 81 0 [.val (.ref a), l1, l2, l3, l4, l5, l6] st h = zrun zP sv C 81 1 [.val (.ref a), l1, l2, l3, l4, l5, l6] (.ref a :: st) h := zx_go rfl rfl
theorem zs_81_1 : zrun zP sv C 81 1 [l0, .val (.int x), l2, l3, l4, l5, l6] st h = zrun zP sv C 81 2 [l0, .val (.int x), l2, l3, l4, l5, l6] (.int x :: st) h := zx_go rfl rfl
theorem zs_81_2 : zrun zP sv C 81 2 [l0, l1, l2, l3, l4, l5, l6] [v1, .ref b] h = zrc (h.1 b) 1 (zbk (C 70 [.ref b, v1] h) (fun v h' => zrun zP sv C 81 5 [l0, l1, l2, l3, l4, l5, l6] (v.toList ++ []) h') (fun E h' => some (.inr E, h'))) := zx_cv (x0 := 1) rfl rfl rfl rfl rfl ⟨Nat.le_of_ble_eq_true rfl, rfl⟩ (fun _ _ => rfl)
theorem zs_81_5 (hs : znw l3 = true) : zrun zP sv C 81 5 [l0, l1, l2, l3, l4, l5, l6] (.ref a :: st) h = zrun zP sv C 81 6 [l0, l1, l2, .val (.ref a), l4, l5, l6] st h := zx_st hs rfl rfl rfl rfl rfl rfl
theorem zs_81_6 : zrun zP sv C 81 6 [.val (.ref a), l1, l2, l3, l4, l5, l6] st h = zrun zP sv C 81 7 [.val (.ref a), l1, l2, l3, l4, l5, l6] (.ref a :: st) h := zx_go rfl rfl
theorem zs_81_7 : zrun zP sv C 81 7 [l0, l1, .val (.int x), l3, l4, l5, l6] st h = zrun zP sv C 81 8 [l0, l1, .val (.int x), l3, l4, l5, l6] (.int x :: st) h := zx_go rfl rfl
theorem zs_81_8 : zrun zP sv C 81 8 [l0, l1, l2, l3, l4, l5, l6] [v1, .ref b] h = zrc (h.1 b) 1 (zbk (C 70 [.ref b, v1] h) (fun v h' => zrun zP sv C 81 11 [l0, l1, l2, l3, l4, l5, l6] (v.toList ++ []) h') (fun E h' => some (.inr E, h'))) := zx_cv (x0 := 1) rfl rfl rfl rfl rfl ⟨Nat.le_of_ble_eq_true rfl, rfl⟩ (fun _ _ => rfl)
theorem zs_81_11 (hs : znw l4 = true) : zrun zP sv C 81 11 [l0, l1, l2, l3, l4, l5, l6] (.ref a :: st) h = zrun zP sv C 81 13 [l0, l1, l2, l3, .val (.ref a), l5, l6] st h := zx_st hs rfl rfl rfl rfl rfl rfl
theorem zs_81_13 : zrun zP sv C 81 13 [l0, l1, l2, .val (.ref a), l4, l5, l6] st h = zrun zP sv C 81 14 [l0, l1, l2, .val (.ref a), l4, l5, l6] (.ref a :: st) h := zx_go rfl rfl
theorem zs_81_14 : zrun zP sv C 81 14 [l0, l1, l2, l3, l4, l5, l6] [.ref b] h = zrc (h.1 b) 6 (zbk (C 182 [.ref b] h) (fun v h' => zrun zP sv C 81 17 [l0, l1, l2, l3, l4, l5, l6] (v.toList ++ []) h') (fun E h' => some (.inr E, h'))) := zx_cv (x0 := 6) rfl rfl rfl rfl rfl ⟨Nat.le_of_ble_eq_true rfl, rfl⟩ (fun _ _ => rfl)
theorem zs_81_17 : zrun zP sv C 81 17 [l0, l1, l2, l3, .val (.ref a), l5, l6] st h = zrun zP sv C 81 19 [l0, l1, l2, l3, .val (.ref a), l5, l6] (.ref a :: st) h := zx_go rfl rfl
theorem zs_81_19 : zrun zP sv C 81 19 [l0, l1, l2, l3, l4, l5, l6] [.ref b, r0] h = zrc (h.1 b) 6 (zbk (C 182 [.ref b] h) (fun v h' => zrun zP sv C 81 22 [l0, l1, l2, l3, l4, l5, l6] (v.toList ++ [r0]) h') (fun E h' => some (.inr E, h'))) := zx_cv (x0 := 6) rfl rfl rfl rfl rfl ⟨Nat.le_of_ble_eq_true rfl, rfl⟩ (fun _ _ => rfl)
theorem zs_81_22 : zrun zP sv C 81 22 [l0, l1, l2, l3, l4, l5, l6] (.int y :: .int x :: st) h = if x = y then zrun zP sv C 81 43 [l0, l1, l2, l3, l4, l5, l6] st h else zrun zP sv C 81 25 [l0, l1, l2, l3, l4, l5, l6] st h := (zx_ic rfl rfl).trans zc0_if
theorem zs_81_25 : zrun zP sv C 81 25 [l0, l1, l2, .val (.ref a), l4, l5, l6] st h = zrun zP sv C 81 26 [l0, l1, l2, .val (.ref a), l4, l5, l6] (.ref a :: st) h := zx_go rfl rfl
theorem zs_81_26 : zrun zP sv C 81 26 [l0, l1, l2, l3, l4, l5, l6] [.ref b] h = zrc (h.1 b) 6 (zbk (C 182 [.ref b] h) (fun v h' => zrun zP sv C 81 29 [l0, l1, l2, l3, l4, l5, l6] (v.toList ++ []) h') (fun E h' => some (.inr E, h'))) := zx_cv (x0 := 6) rfl rfl rfl rfl rfl ⟨Nat.le_of_ble_eq_true rfl, rfl⟩ (fun _ _ => rfl)
theorem zs_81_29 : zrun zP sv C 81 29 [l0, l1, l2, l3, .val (.ref a), l5, l6] st h = zrun zP sv C 81 31 [l0, l1, l2, l3, .val (.ref a), l5, l6] (.ref a :: st) h := zx_go rfl rfl
theorem zs_81_31 : zrun zP sv C 81 31 [l0, l1, l2, l3, l4, l5, l6] [.ref b, r0] h = zrc (h.1 b) 6 (zbk (C 182 [.ref b] h) (fun v h' => zrun zP sv C 81 34 [l0, l1, l2, l3, l4, l5, l6] (v.toList ++ [r0]) h') (fun E h' => some (.inr E, h'))) := zx_cv (x0 := 6) rfl rfl rfl rfl rfl ⟨Nat.le_of_ble_eq_true rfl, rfl⟩ (fun _ _ => rfl)
theorem zs_81_34 : zrun zP sv C 81 34 [l0, l1, l2, l3, l4, l5, l6] (.int y :: .int x :: st) h = if y < x then zrun zP sv C 81 37 [l0, l1, l2, l3, l4, l5, l6] st h else zrun zP sv C 81 41 [l0, l1, l2, l3, l4, l5, l6] st h := (zx_ic rfl rfl).trans zc5_if
theorem zs_81_37 : zrun zP sv C 81 37 [l0, l1, l2, l3, l4, l5, l6] st h = zrun zP sv C 81 38 [l0, l1, l2, l3, l4, l5, l6] (.int (nI 1) :: st) h := zx_go rfl rfl
theorem zs_81_38 : zrun zP sv C 81 38 [l0, l1, l2, l3, l4, l5, l6] st h = zrun zP sv C 81 42 [l0, l1, l2, l3, l4, l5, l6] st h := zx_go rfl rfl
theorem zs_81_41 : zrun zP sv C 81 41 [l0, l1, l2, l3, l4, l5, l6] st h = zrun zP sv C 81 42 [l0, l1, l2, l3, l4, l5, l6] (.int 0 :: st) h := zx_go rfl rfl
theorem zs_81_42 : zrun zP sv C 81 42 [l0, l1, l2, l3, l4, l5, l6] [.int x] h = zgd (zty 5 (.int x)) (some (.inl (some (.int x)), h)) := zx_rt rfl
theorem zs_81_43 : zrun zP sv C 81 43 [.val (.ref a), l1, l2, l3, l4, l5, l6] st h = zrun zP sv C 81 44 [.val (.ref a), l1, l2, l3, l4, l5, l6] (.ref a :: st) h := zx_go rfl rfl
theorem zs_81_44 : zrun zP sv C 81 44 [l0, l1, l2, l3, l4, l5, l6] (.ref a :: st) h = zfld (h.1 a) 1 10 (fun v => zrun zP sv C 81 47 [l0, l1, l2, l3, l4, l5, l6] (v :: st) h) := zx_getf rfl rfl
theorem zs_81_47 : zrun zP sv C 81 47 [l0, l1, l2, .val (.ref a), l4, l5, l6] st h = zrun zP sv C 81 48 [l0, l1, l2, .val (.ref a), l4, l5, l6] (.ref a :: st) h := zx_go rfl rfl
theorem zs_81_48 : zrun zP sv C 81 48 [l0, l1, l2, .val (.ref a), l4, l5, l6] st h = zrun zP sv C 81 49 [l0, l1, l2, .val (.ref a), l4, l5, l6] (.ref a :: st) h := zx_go rfl rfl
theorem zs_81_49 : zrun zP sv C 81 49 [l0, l1, l2, l3, l4, l5, l6] [.ref b, r0, r1] h = zrc (h.1 b) 6 (zbk (C 183 [.ref b] h) (fun v h' => zrun zP sv C 81 52 [l0, l1, l2, l3, l4, l5, l6] (v.toList ++ [r0, r1]) h') (fun E h' => some (.inr E, h'))) := zx_cv (x0 := 6) rfl rfl rfl rfl rfl ⟨Nat.le_of_ble_eq_true rfl, rfl⟩ (fun _ _ => rfl)
theorem zs_81_52 : zrun zP sv C 81 52 [l0, l1, l2, l3, l4, l5, l6] [v2, v1, .ref b] h = zrc (h.1 b) 10 (zbk (C 118 [.ref b, v1, v2] h) (fun v h' => zrun zP sv C 81 55 [l0, l1, l2, l3, l4, l5, l6] (v.toList ++ []) h') (fun E h' => some (.inr E, h'))) := zx_cv (x0 := 10) rfl rfl rfl rfl rfl ⟨Nat.le_of_ble_eq_true rfl, rfl⟩ (fun _ _ => rfl)
theorem zs_81_55 (hs : znw l5 = true) : zrun zP sv C 81 55 [l0, l1, l2, l3, l4, l5, l6] (.int x :: st) h = zrun zP sv C 81 57 [l0, l1, l2, l3, l4, .val (.int x), l6] st h := zx_st hs rfl rfl rfl rfl rfl rfl
theorem zs_81_57 : zrun zP sv C 81 57 [.val (.ref a), l1, l2, l3, l4, l5, l6] st h = zrun zP sv C 81 58 [.val (.ref a), l1, l2, l3, l4, l5, l6] (.ref a :: st) h := zx_go rfl rfl
theorem zs_81_58 : zrun zP sv C 81 58 [l0, l1, l2, l3, l4, l5, l6] (.ref a :: st) h = zfld (h.1 a) 1 10 (fun v => zrun zP sv C 81 61 [l0, l1, l2, l3, l4, l5, l6] (v :: st) h) := zx_getf rfl rfl
theorem zs_81_61 : zrun zP sv C 81 61 [l0, l1, l2, l3, .val (.ref a), l5, l6] st h = zrun zP sv C 81 63 [l0, l1, l2, l3, .val (.ref a), l5, l6] (.ref a :: st) h := zx_go rfl rfl
theorem zs_81_63 : zrun zP sv C 81 63 [l0, l1, l2, l3, .val (.ref a), l5, l6] st h = zrun zP sv C 81 65 [l0, l1, l2, l3, .val (.ref a), l5, l6] (.ref a :: st) h := zx_go rfl rfl
theorem zs_81_65 : zrun zP sv C 81 65 [l0, l1, l2, l3, l4, l5, l6] [.ref b, r0, r1] h = zrc (h.1 b) 6 (zbk (C 183 [.ref b] h) (fun v h' => zrun zP sv C 81 68 [l0, l1, l2, l3, l4, l5, l6] (v.toList ++ [r0, r1]) h') (fun E h' => some (.inr E, h'))) := zx_cv (x0 := 6) rfl rfl rfl rfl rfl ⟨Nat.le_of_ble_eq_true rfl, rfl⟩ (fun _ _ => rfl)
theorem zs_81_68 : zrun zP sv C 81 68 [l0, l1, l2, l3, l4, l5, l6] [v2, v1, .ref b] h = zrc (h.1 b) 10 (zbk (C 118 [.ref b, v1, v2] h) (fun v h' => zrun zP sv C 81 71 [l0, l1, l2, l3, l4, l5, l6] (v.toList ++ []) h') (fun E h' => some (.inr E, h'))) := zx_cv (x0 := 10) rfl rfl rfl rfl rfl ⟨Nat.le_of_ble_eq_true rfl, rfl⟩ (fun _ _ => rfl)
theorem zs_81_71 (hs : znw l6 = true) : zrun zP sv C 81 71 [l0, l1, l2, l3, l4, l5, l6] (.int x :: st) h = zrun zP sv C 81 73 [l0, l1, l2, l3, l4, l5, .val (.int x)] st h := zx_st hs rfl rfl rfl rfl rfl rfl
theorem zs_81_73 : zrun zP sv C 81 73 [l0, l1, l2, l3, l4, .val (.int x), l6] st h = zrun zP sv C 81 75 [l0, l1, l2, l3, l4, .val (.int x), l6] (.int x :: st) h := zx_go rfl rfl
theorem zs_81_75 : zrun zP sv C 81 75 [l0, l1, l2, l3, l4, l5, .val (.int x)] st h = zrun zP sv C 81 77 [l0, l1, l2, l3, l4, l5, .val (.int x)] (.int x :: st) h := zx_go rfl rfl
theorem zs_81_77 : zrun zP sv C 81 77 [l0, l1, l2, l3, l4, l5, l6] (.int y :: .int x :: st) h = if x = y then zrun zP sv C 81 93 [l0, l1, l2, l3, l4, l5, l6] st h else zrun zP sv C 81 80 [l0, l1, l2, l3, l4, l5, l6] st h := (zx_ic rfl rfl).trans zc0_if
theorem zs_81_80 : zrun zP sv C 81 80 [l0, l1, l2, l3, l4, .val (.int x), l6] st h = zrun zP sv C 81 82 [l0, l1, l2, l3, l4, .val (.int x), l6] (.int x :: st) h := zx_go rfl rfl
theorem zs_81_82 : zrun zP sv C 81 82 [l0, l1, l2, l3, l4, l5, .val (.int x)] st h = zrun zP sv C 81 84 [l0, l1, l2, l3, l4, l5, .val (.int x)] (.int x :: st) h := zx_go rfl rfl
theorem zs_81_84 : zrun zP sv C 81 84 [l0, l1, l2, l3, l4, l5, l6] (.int y :: .int x :: st) h = if y < x then zrun zP sv C 81 87 [l0, l1, l2, l3, l4, l5, l6] st h else zrun zP sv C 81 91 [l0, l1, l2, l3, l4, l5, l6] st h := (zx_ic rfl rfl).trans zc5_if
theorem zs_81_87 : zrun zP sv C 81 87 [l0, l1, l2, l3, l4, l5, l6] st h = zrun zP sv C 81 88 [l0, l1, l2, l3, l4, l5, l6] (.int (nI 1) :: st) h := zx_go rfl rfl
theorem zs_81_88 : zrun zP sv C 81 88 [l0, l1, l2, l3, l4, l5, l6] st h = zrun zP sv C 81 92 [l0, l1, l2, l3, l4, l5, l6] st h := zx_go rfl rfl
theorem zs_81_91 : zrun zP sv C 81 91 [l0, l1, l2, l3, l4, l5, l6] st h = zrun zP sv C 81 92 [l0, l1, l2, l3, l4, l5, l6] (.int 0 :: st) h := zx_go rfl rfl
theorem zs_81_92 : zrun zP sv C 81 92 [l0, l1, l2, l3, l4, l5, l6] [.int x] h = zgd (zty 5 (.int x)) (some (.inl (some (.int x)), h)) := zx_rt rfl
theorem zs_81_93 : zrun zP sv C 81 93 [l0, .val (.int x), l2, l3, l4, l5, l6] st h = zrun zP sv C 81 94 [l0, .val (.int x), l2, l3, l4, l5, l6] (.int x :: st) h := zx_go rfl rfl
theorem zs_81_94 : zrun zP sv C 81 94 [l0, l1, .val (.int x), l3, l4, l5, l6] st h = zrun zP sv C 81 95 [l0, l1, .val (.int x), l3, l4, l5, l6] (.int x :: st) h := zx_go rfl rfl
theorem zs_81_95 : zrun zP sv C 81 95 [l0, l1, l2, l3, l4, l5, l6] (.int y :: .int x :: st) h = if x < y then zrun zP sv C 81 98 [l0, l1, l2, l3, l4, l5, l6] st h else zrun zP sv C 81 102 [l0, l1, l2, l3, l4, l5, l6] st h := (zx_ic rfl rfl).trans zc3_if
theorem zs_81_98 : zrun zP sv C 81 98 [l0, l1, l2, l3, l4, l5, l6] st h = zrun zP sv C 81 99 [l0, l1, l2, l3, l4, l5, l6] (.int (nI 1) :: st) h := zx_go rfl rfl
theorem zs_81_99 : zrun zP sv C 81 99 [l0, l1, l2, l3, l4, l5, l6] st h = zrun zP sv C 81 103 [l0, l1, l2, l3, l4, l5, l6] st h := zx_go rfl rfl
theorem zs_81_102 : zrun zP sv C 81 102 [l0, l1, l2, l3, l4, l5, l6] st h = zrun zP sv C 81 103 [l0, l1, l2, l3, l4, l5, l6] (.int 0 :: st) h := zx_go rfl rfl
theorem zs_81_103 : zrun zP sv C 81 103 [l0, l1, l2, l3, l4, l5, l6] [.int x] h = zgd (zty 5 (.int x)) (some (.inl (some (.int x)), h)) := zx_rt rfl
theorem zs_82_0 : zrun zP sv C 82 0 [l0, l1, l2, l3, l4] st h = zrun zP sv C 82 2 [l0, l1, l2, l3, l4] (.int (nI 97) :: st) h := zx_go rfl rfl
theorem zs_82_2 (hs : znw l2 = true) : zrun zP sv C 82 2 [l0, l1, l2, l3, l4] (.int x :: st) h = zrun zP sv C 82 3 [l0, l1, .val (.int x), l3, l4] st h := zx_st hs rfl rfl rfl rfl rfl rfl
theorem zs_82_3 : zrun zP sv C 82 3 [l0, l1, .val (.int x), l3, l4] st h = zrun zP sv C 82 4 [l0, l1, .val (.int x), l3, l4] (.int x :: st) h := zx_go rfl rfl
theorem zs_82_4 : zrun zP sv C 82 4 [l0, l1, l2, l3, l4] st h = zrun zP sv C 82 6 [l0, l1, l2, l3, l4] (.int (nI 102) :: st) h := zx_go rfl rfl
theorem zs_82_6 : zrun zP sv C 82 6 [l0, l1, l2, l3, l4] (.int y :: .int x :: st) h = if y < x then zrun zP sv C 82 75 [l0, l1, l2, l3, l4] st h else zrun zP sv C 82 9 [l0, l1, l2, l3, l4] st h := (zx_ic rfl rfl).trans zc4_if
theorem zs_82_9 : zrun zP sv C 82 9 [.val (.ref a), l1, l2, l3, l4] st h = zrun zP sv C 82 10 [.val (.ref a), l1, l2, l3, l4] (.ref a :: st) h := zx_go rfl rfl
theorem zs_82_10 : zrun zP sv C 82 10 [l0, l1, l2, l3, l4] (.ref a :: st) h = zfld (h.1 a) 1 10 (fun v => zrun zP sv C 82 13 [l0, l1, l2, l3, l4] (v :: st) h) := zx_getf rfl rfl
theorem zs_82_13 : zrun zP sv C 82 13 [l0, .val (.ref a), l2, l3, l4] st h = zrun zP sv C 82 14 [l0, .val (.ref a), l2, l3, l4] (.ref a :: st) h := zx_go rfl rfl
theorem zs_82_14 : zrun zP sv C 82 14 [l0, l1, .val (.int x), l3, l4] st h = zrun zP sv C 82 15 [l0, l1, .val (.int x), l3, l4] (.int x :: st) h := zx_go rfl rfl
theorem zs_82_15 : zrun zP sv C 82 15 [.val (.ref a), l1, l2, l3, l4] st h = zrun zP sv C 82 16 [.val (.ref a), l1, l2, l3, l4] (.ref a :: st) h := zx_go rfl rfl
theorem zs_82_16 : zrun zP sv C 82 16 [l0, l1, l2, l3, l4] (.ref a :: st) h = zfld (h.1 a) 1 2 (fun v => zrun zP sv C 82 19 [l0, l1, l2, l3, l4] (v :: st) h) := zx_getf rfl rfl
theorem zs_82_19 : zrun zP sv C 82 19 [l0, l1, l2, l3, l4] [.ref b, r0, r1, r2] h = zrc (h.1 b) 3 (zbk (C 170 [.ref b] h) (fun v h' => zrun zP sv C 82 22 [l0, l1, l2, l3, l4] (v.toList ++ [r0, r1, r2]) h') (fun E h' => some (.inr E, h'))) := zx_cv (x0 := 3) rfl rfl rfl rfl rfl ⟨Nat.le_of_ble_eq_true rfl, rfl⟩ (fun _ _ => rfl)
theorem zs_82_22 : zrun zP sv C 82 22 [l0, l1, l2, l3, l4] [v3, v2, v1, .ref b] h = zrc (h.1 b) 10 (zbk (C 123 [.ref b, v1, v2, v3] h) (fun v h' => zrun zP sv C 82 25 [l0, l1, l2, l3, l4] (v.toList ++ []) h') (fun E h' => some (.inr E, h'))) := zx_cv (x0 := 10) rfl rfl rfl rfl rfl ⟨Nat.le_of_ble_eq_true rfl, rfl⟩ (fun _ _ => rfl)
theorem zs_82_25 (hs : znw l3 = true) : zrun zP sv C 82 25 [l0, l1, l2, l3, l4] (.int x :: st) h = zrun zP sv C 82 26 [l0, l1, l2, .val (.int x), l4] st h := zx_st hs rfl rfl rfl rfl rfl rfl
theorem zs_82_26 : zrun zP sv C 82 26 [.val (.ref a), l1, l2, l3, l4] st h = zrun zP sv C 82 27 [.val (.ref a), l1, l2, l3, l4] (.ref a :: st) h := zx_go rfl rfl
theorem zs_82_27 : zrun zP sv C 82 27 [l0, l1, l2, l3, l4] (.ref a :: st) h = zfld (h.1 a) 1 9 (fun v => zrun zP sv C 82 30 [l0, l1, l2, l3, l4] (v :: st) h) := zx_getf rfl rfl
theorem zs_82_30 : zrun zP sv C 82 30 [l0, .val (.ref a), l2, l3, l4] st h = zrun zP sv C 82 31 [l0, .val (.ref a), l2, l3, l4] (.ref a :: st) h := zx_go rfl rfl
theorem zs_82_31 : zrun zP sv C 82 31 [l0, l1, .val (.int x), l3, l4] st h = zrun zP sv C 82 32 [l0, l1, .val (.int x), l3, l4] (.int x :: st) h := zx_go rfl rfl
theorem zs_82_32 : zrun zP sv C 82 32 [.val (.ref a), l1, l2, l3, l4] st h = zrun zP sv C 82 33 [.val (.ref a), l1, l2, l3, l4] (.ref a :: st) h := zx_go rfl rfl
theorem zs_82_33 : zrun zP sv C 82 33 [l0, l1, l2, l3, l4] (.ref a :: st) h = zfld (h.1 a) 1 6 (fun v => zrun zP sv C 82 36 [l0, l1, l2, l3, l4] (v :: st) h) := zx_getf rfl rfl
theorem zs_82_36 : zrun zP sv C 82 36 [l0, l1, l2, l3, l4] [v3, v2, v1, .ref b] h = zrc (h.1 b) 9 (zbk (C 93 [.ref b, v1, v2, v3] h) (fun v h' => zrun zP sv C 82 39 [l0, l1, l2, l3, l4] (v.toList ++ []) h') (fun E h' => some (.inr E, h'))) := zx_cv (x0 := 9) rfl rfl rfl rfl rfl ⟨Nat.le_of_ble_eq_true rfl, rfl⟩ (fun _ _ => rfl)
theorem zs_82_39 (hs : znw l4 = true) : zrun zP sv C 82 39 [l0, l1, l2, l3, l4] (.int x :: st) h = zrun zP sv C 82 41 [l0, l1, l2, l3, .val (.int x)] st h := zx_st hs rfl rfl rfl rfl rfl rfl
theorem zs_82_41 : zrun zP sv C 82 41 [l0, l1, l2, .val (.int x), l4] st h = zrun zP sv C 82 42 [l0, l1, l2, .val (.int x), l4] (.int x :: st) h := zx_go rfl rfl
theorem zs_82_42 : zrun zP sv C 82 42 [.val (.ref a), l1, l2, l3, l4] st h = zrun zP sv C 82 43 [.val (.ref a), l1, l2, l3, l4] (.ref a :: st) h := zx_go rfl rfl
theorem zs_82_43 : zrun zP sv C 82 43 [l0, l1, l2, l3, l4] (.ref a :: st) h = zfld (h.1 a) 1 10 (fun v => zrun zP sv C 82 46 [l0, l1, l2, l3, l4] (v :: st) h) := zx_getf rfl rfl
theorem zs_82_46 : zrun zP sv C 82 46 [.val (.ref a), l1, l2, l3, l4] st h = zrun zP sv C 82 47 [.val (.ref a), l1, l2, l3, l4] (.ref a :: st) h := zx_go rfl rfl
theorem zs_82_47 : zrun zP sv C 82 47 [l0, l1, l2, l3, l4] (.ref a :: st) h = zfld (h.1 a) 1 6 (fun v => zrun zP sv C 82 50 [l0, l1, l2, l3, l4] (v :: st) h) := zx_getf rfl rfl
theorem zs_82_50 : zrun zP sv C 82 50 [l0, l1, l2, l3, .val (.int x)] st h = zrun zP sv C 82 52 [l0, l1, l2, l3, .val (.int x)] (.int x :: st) h := zx_go rfl rfl
theorem zs_82_52 : zrun zP sv C 82 52 [.val (.ref a), l1, l2, l3, l4] st h = zrun zP sv C 82 53 [.val (.ref a), l1, l2, l3, l4] (.ref a :: st) h := zx_go rfl rfl
theorem zs_82_53 : zrun zP sv C 82 53 [l0, l1, l2, l3, l4] (.ref a :: st) h = zfld (h.1 a) 1 2 (fun v => zrun zP sv C 82 56 [l0, l1, l2, l3, l4] (v :: st) h) := zx_getf rfl rfl
theorem zs_82_56 : zrun zP sv C 82 56 [l0, l1, l2, l3, l4] [.ref b, r0, r1, r2, r3] h = zrc (h.1 b) 3 (zbk (C 170 [.ref b] h) (fun v h' => zrun zP sv C 82 59 [l0, l1, l2, l3, l4] (v.toList ++ [r0, r1, r2, r3]) h') (fun E h' => some (.inr E, h'))) := zx_cv (x0 := 3) rfl rfl rfl rfl rfl ⟨Nat.le_of_ble_eq_true rfl, rfl⟩ (fun _ _ => rfl)
theorem zs_82_59 : zrun zP sv C 82 59 [l0, l1, l2, l3, l4] [v3, v2, v1, .ref b, r0] h = zrc (h.1 b) 10 (zbk (C 121 [.ref b, v1, v2, v3] h) (fun v h' => zrun zP sv C 82 62 [l0, l1, l2, l3, l4] (v.toList ++ [r0]) h') (fun E h' => some (.inr E, h'))) := zx_cv (x0 := 10) rfl rfl rfl rfl rfl ⟨Nat.le_of_ble_eq_true rfl, rfl⟩ (fun _ _ => rfl)
theorem zs_82_62 : zrun zP sv C 82 62 [l0, l1, l2, l3, l4] (.int y :: .int x :: st) h = if x = y then zrun zP sv C 82 67 [l0, l1, l2, l3, l4] st h else zrun zP sv C 82 65 [l0, l1, l2, l3, l4] st h := (zx_ic rfl rfl).trans zc0_if
theorem zs_82_65 : zrun zP sv C 82 65 [l0, l1, l2, l3, l4] st h = zrun zP sv C 82 66 [l0, l1, l2, l3, l4] (.int 0 :: st) h := zx_go rfl rfl
theorem zs_82_66 : zrun zP sv C 82 66 [l0, l1, l2, l3, l4] [.int x] h = zgd (zty 5 (.int x)) (some (.inl (some (.int x)), h)) := zx_rt rfl
theorem zs_82_67 : zrun zP sv C 82 67 [l0, l1, .val (.int x), l3, l4] st h = zrun zP sv C 82 68 [l0, l1, .val (.int x), l3, l4] (.int x :: st) h := zx_go rfl rfl
theorem zs_82_68 : zrun zP sv C 82 68 [l0, l1, l2, l3, l4] st h = zrun zP sv C 82 69 [l0, l1, l2, l3, l4] (.int (nI 1) :: st) h := zx_go rfl rfl
theorem zs_82_69 : zrun zP sv C 82 69 [l0, l1, l2, l3, l4] (.int y :: .int x :: st) h = zrun zP sv C 82 70 [l0, l1, l2, l3, l4] (.int (x + y) :: st) h := zx_go rfl rfl
theorem zs_82_70 : zrun zP sv C 82 70 [l0, l1, l2, l3, l4] (.int x :: st) h = zrun zP sv C 82 71 [l0, l1, l2, l3, l4] (.int (x.toUInt32 % 65536).toInt32 :: st) h := zx_go rfl rfl
theorem zs_82_71 (hs : znw l2 = true) : zrun zP sv C 82 71 [l0, l1, l2, l3, l4] (.int x :: st) h = zrun zP sv C 82 72 [l0, l1, .val (.int x), l3, l4] st h := zx_st hs rfl rfl rfl rfl rfl rfl
theorem zs_82_72 : zrun zP sv C 82 72 [l0, l1, l2, l3, l4] st h = zrun zP sv C 82 3 [l0, l1, l2, l3, l4] st h := zx_go rfl rfl
theorem zs_82_75 : zrun zP sv C 82 75 [l0, l1, l2, l3, l4] st h = zrun zP sv C 82 76 [l0, l1, l2, l3, l4] (.int (nI 1) :: st) h := zx_go rfl rfl
theorem zs_82_76 : zrun zP sv C 82 76 [l0, l1, l2, l3, l4] [.int x] h = zgd (zty 5 (.int x)) (some (.inl (some (.int x)), h)) := zx_rt rfl
theorem zs_83_0 : zrun zP sv C 83 0 [.val (.int x)] st h = zrun zP sv C 83 1 [.val (.int x)] (.int x :: st) h := zx_go rfl rfl
theorem zs_83_1 : zrun zP sv C 83 1 [l0] st h = zrun zP sv C 83 3 [l0] (.int (nI 43) :: st) h := zx_go rfl rfl
theorem zs_83_3 : zrun zP sv C 83 3 [l0] (.int y :: .int x :: st) h = if x = y then zrun zP sv C 83 18 [l0] st h else zrun zP sv C 83 6 [l0] st h := (zx_ic rfl rfl).trans zc0_if
theorem zs_83_6 : zrun zP sv C 83 6 [.val (.int x)] st h = zrun zP sv C 83 7 [.val (.int x)] (.int x :: st) h := zx_go rfl rfl
theorem zs_83_7 : zrun zP sv C 83 7 [l0] st h = zrun zP sv C 83 9 [l0] (.int (nI 45) :: st) h := zx_go rfl rfl
theorem zs_83_9 : zrun zP sv C 83 9 [l0] (.int y :: .int x :: st) h = if x = y then zrun zP sv C 83 18 [l0] st h else zrun zP sv C 83 12 [l0] st h := (zx_ic rfl rfl).trans zc0_if
theorem zs_83_12 : zrun zP sv C 83 12 [.val (.int x)] st h = zrun zP sv C 83 13 [.val (.int x)] (.int x :: st) h := zx_go rfl rfl
theorem zs_83_13 : zrun zP sv C 83 13 [l0] st h = zrun zP sv C 83 15 [l0] (.int (nI 42) :: st) h := zx_go rfl rfl
theorem zs_83_15 : zrun zP sv C 83 15 [l0] (.int y :: .int x :: st) h = if x = y then zrun zP sv C 83 18 [l0] st h else zrun zP sv C 83 22 [l0] st h := (zx_ic rfl rfl).trans zc1_if
theorem zs_83_18 : zrun zP sv C 83 18 [l0] st h = zrun zP sv C 83 19 [l0] (.int (nI 1) :: st) h := zx_go rfl rfl
theorem zs_83_19 : zrun zP sv C 83 19 [l0] st h = zrun zP sv C 83 23 [l0] st h := zx_go rfl rfl
theorem zs_83_22 : zrun zP sv C 83 22 [l0] st h = zrun zP sv C 83 23 [l0] (.int 0 :: st) h := zx_go rfl rfl
theorem zs_83_23 : zrun zP sv C 83 23 [l0] [.int x] h = zgd (zty 5 (.int x)) (some (.inl (some (.int x)), h)) := zx_rt rfl
theorem zs_84_0 : zrun zP sv C 84 0 [.val (.int x), l1, l2] st h = zrun zP sv C 84 1 [.val (.int x), l1, l2] (.int x :: st) h := zx_go rfl rfl
theorem zs_84_1 : zrun zP sv C 84 1 [l0, l1, l2] (.int x :: st) h = zrun zP sv C 84 (zswp (zP.2.2.2.1 0) 59 x) [l0, l1, l2] st h := zx_sw rfl
theorem zs_84_44 : zrun zP sv C 84 44 [l0, .val (.int x), l2] st h = zrun zP sv C 84 45 [l0, .val (.int x), l2] (.int x :: st) h := zx_go rfl rfl
theorem zs_84_45 : zrun zP sv C 84 45 [l0, l1, l2] (.int x :: st) h = zrun zP sv C 84 46 [l0, l1, l2] (.int (-x) :: st) h := zx_go rfl rfl
theorem zs_84_46 : zrun zP sv C 84 46 [l0, l1, l2] [.int x] h = some (.inl (some (.int x)), h) := zx_end rfl rfl
theorem zs_84_47 : zrun zP sv C 84 47 [l0, .val (.int x), l2] st h = zrun zP sv C 84 48 [l0, .val (.int x), l2] (.int x :: st) h := zx_go rfl rfl
theorem zs_84_48 : zrun zP sv C 84 48 [l0, l1, .val (.int x)] st h = zrun zP sv C 84 49 [l0, l1, .val (.int x)] (.int x :: st) h := zx_go rfl rfl
theorem zs_84_49 : zrun zP sv C 84 49 [l0, l1, l2] (.int y :: .int x :: st) h = zrun zP sv C 84 50 [l0, l1, l2] (.int (x + y) :: st) h := zx_go rfl rfl
theorem zs_84_50 : zrun zP sv C 84 50 [l0, l1, l2] [.int x] h = some (.inl (some (.int x)), h) := zx_end rfl rfl
theorem zs_84_51 : zrun zP sv C 84 51 [l0, .val (.int x), l2] st h = zrun zP sv C 84 52 [l0, .val (.int x), l2] (.int x :: st) h := zx_go rfl rfl
theorem zs_84_52 : zrun zP sv C 84 52 [l0, l1, .val (.int x)] st h = zrun zP sv C 84 53 [l0, l1, .val (.int x)] (.int x :: st) h := zx_go rfl rfl
theorem zs_84_53 : zrun zP sv C 84 53 [l0, l1, l2] (.int y :: .int x :: st) h = zrun zP sv C 84 54 [l0, l1, l2] (.int (x - y) :: st) h := zx_go rfl rfl
theorem zs_84_54 : zrun zP sv C 84 54 [l0, l1, l2] [.int x] h = some (.inl (some (.int x)), h) := zx_end rfl rfl
theorem zs_84_55 : zrun zP sv C 84 55 [l0, .val (.int x), l2] st h = zrun zP sv C 84 56 [l0, .val (.int x), l2] (.int x :: st) h := zx_go rfl rfl
theorem zs_84_56 : zrun zP sv C 84 56 [l0, l1, .val (.int x)] st h = zrun zP sv C 84 57 [l0, l1, .val (.int x)] (.int x :: st) h := zx_go rfl rfl
theorem zs_84_57 : zrun zP sv C 84 57 [l0, l1, l2] (.int y :: .int x :: st) h = zrun zP sv C 84 58 [l0, l1, l2] (.int (x * y) :: st) h := zx_go rfl rfl
theorem zs_84_58 : zrun zP sv C 84 58 [l0, l1, l2] [.int x] h = some (.inl (some (.int x)), h) := zx_end rfl rfl
theorem zs_84_59 : zrun zP sv C 84 59 [l0, l1, l2] st h = zrun zP sv C 84 60 [l0, l1, l2] (.int 0 :: st) h := zx_go rfl rfl
theorem zs_84_60 : zrun zP sv C 84 60 [l0, l1, l2] [.int x] h = some (.inl (some (.int x)), h) := zx_end rfl rfl
theorem zs_85_0 : zrun zP sv C 85 0 [l0, .val (.int x), l2, l3, l4] st h = zrun zP sv C 85 1 [l0, .val (.int x), l2, l3, l4] (.int x :: st) h := zx_go rfl rfl
theorem zs_85_1 : zrun zP sv C 85 1 [l0, l1, l2, l3, l4] st h = zrun zP sv C 85 2 [l0, l1, l2, l3, l4] (.int (-1) :: st) h := zx_go rfl rfl
theorem zs_85_2 : zrun zP sv C 85 2 [l0, l1, l2, l3, l4] (.int y :: .int x :: st) h = if x = y then zrun zP sv C 85 17 [l0, l1, l2, l3, l4] st h else zrun zP sv C 85 5 [l0, l1, l2, l3, l4] st h := (zx_ic rfl rfl).trans zc0_if
theorem zs_85_5 : zrun zP sv C 85 5 [l0, l1, l2, .val (.int x), l4] st h = zrun zP sv C 85 6 [l0, l1, l2, .val (.int x), l4] (.int x :: st) h := zx_go rfl rfl
theorem zs_85_6 : zrun zP sv C 85 6 [l0, l1, l2, l3, l4] st h = zrun zP sv C 85 7 [l0, l1, l2, l3, l4] (.int (-1) :: st) h := zx_go rfl rfl
theorem zs_85_7 : zrun zP sv C 85 7 [l0, l1, l2, l3, l4] (.int y :: .int x :: st) h = if x = y then zrun zP sv C 85 17 [l0, l1, l2, l3, l4] st h else zrun zP sv C 85 10 [l0, l1, l2, l3, l4] st h := (zx_ic rfl rfl).trans zc0_if
theorem zs_85_10 : zrun zP sv C 85 10 [l0, l1, l2, l3, .val (.int x)] st h = zrun zP sv C 85 12 [l0, l1, l2, l3, .val (.int x)] (.int x :: st) h := zx_go rfl rfl
theorem zs_85_12 : zrun zP sv C 85 12 [l0, l1, l2, l3, l4] st h = zrun zP sv C 85 14 [l0, l1, l2, l3, l4] (.int (nI 40) :: st) h := zx_go rfl rfl
theorem zs_85_14 : zrun zP sv C 85 14 [l0, l1, l2, l3, l4] (.int y :: .int x :: st) h = if y < x then zrun zP sv C 85 17 [l0, l1, l2, l3, l4] st h else zrun zP sv C 85 33 [l0, l1, l2, l3, l4] st h := (zx_ic rfl rfl).trans zc5_if
theorem zs_85_17 : zrun zP sv C 85 17 [l0, .val (.int x), l2, l3, l4] st h = zrun zP sv C 85 18 [l0, .val (.int x), l2, l3, l4] (.int x :: st) h := zx_go rfl rfl
theorem zs_85_18 : zrun zP sv C 85 18 [l0, l1, l2, l3, l4] st h = zrun zP sv C 85 19 [l0, l1, l2, l3, l4] (.int (-1) :: st) h := zx_go rfl rfl
theorem zs_85_19 : zrun zP sv C 85 19 [l0, l1, l2, l3, l4] (.int y :: .int x :: st) h = if x = y then zrun zP sv C 85 22 [l0, l1, l2, l3, l4] st h else zrun zP sv C 85 31 [l0, l1, l2, l3, l4] st h := (zx_ic rfl rfl).trans zc1_if
theorem zs_85_22 : zrun zP sv C 85 22 [l0, l1, l2, .val (.int x), l4] st h = zrun zP sv C 85 23 [l0, l1, l2, .val (.int x), l4] (.int x :: st) h := zx_go rfl rfl
theorem zs_85_23 : zrun zP sv C 85 23 [l0, l1, l2, l3, l4] st h = zrun zP sv C 85 24 [l0, l1, l2, l3, l4] (.int (-1) :: st) h := zx_go rfl rfl
theorem zs_85_24 : zrun zP sv C 85 24 [l0, l1, l2, l3, l4] (.int y :: .int x :: st) h = if x = y then zrun zP sv C 85 27 [l0, l1, l2, l3, l4] st h else zrun zP sv C 85 31 [l0, l1, l2, l3, l4] st h := (zx_ic rfl rfl).trans zc1_if
theorem zs_85_27 : zrun zP sv C 85 27 [l0, l1, l2, l3, l4] st h = zrun zP sv C 85 28 [l0, l1, l2, l3, l4] (.int (nI 1) :: st) h := zx_go rfl rfl
theorem zs_85_28 : zrun zP sv C 85 28 [l0, l1, l2, l3, l4] st h = zrun zP sv C 85 32 [l0, l1, l2, l3, l4] st h := zx_go rfl rfl
theorem zs_85_31 : zrun zP sv C 85 31 [l0, l1, l2, l3, l4] st h = zrun zP sv C 85 32 [l0, l1, l2, l3, l4] (.int 0 :: st) h := zx_go rfl rfl
theorem zs_85_32 : zrun zP sv C 85 32 [l0, l1, l2, l3, l4] [.int x] h = zgd (zty 5 (.int x)) (some (.inl (some (.int x)), h)) := zx_rt rfl
theorem zs_85_33 : zrun zP sv C 85 33 [.val (.ref a), l1, l2, l3, l4] st h = zrun zP sv C 85 34 [.val (.ref a), l1, l2, l3, l4] (.ref a :: st) h := zx_go rfl rfl
theorem zs_85_34 : zrun zP sv C 85 34 [l0, .val (.int x), l2, l3, l4] st h = zrun zP sv C 85 35 [l0, .val (.int x), l2, l3, l4] (.int x :: st) h := zx_go rfl rfl
theorem zs_85_35 : zrun zP sv C 85 35 [l0, l1, l2, l3, l4] [v1, .ref b] h = zrc (h.1 b) 6 (zbk (C 184 [.ref b, v1] h) (fun v h' => zrun zP sv C 85 38 [l0, l1, l2, l3, l4] (v.toList ++ []) h') (fun E h' => some (.inr E, h'))) := zx_cv (x0 := 6) rfl rfl rfl rfl rfl ⟨Nat.le_of_ble_eq_true rfl, rfl⟩ (fun _ _ => rfl)
theorem zs_85_38 : zrun zP sv C 85 38 [l0, l1, .val (.ref a), l3, l4] st h = zrun zP sv C 85 39 [l0, l1, .val (.ref a), l3, l4] (.ref a :: st) h := zx_go rfl rfl
theorem zs_85_39 : zrun zP sv C 85 39 [l0, l1, l2, .val (.int x), l4] st h = zrun zP sv C 85 40 [l0, l1, l2, .val (.int x), l4] (.int x :: st) h := zx_go rfl rfl
theorem zs_85_40 : zrun zP sv C 85 40 [l0, l1, l2, l3, l4] [v1, .ref b, r0] h = zrc (h.1 b) 6 (zbk (C 184 [.ref b, v1] h) (fun v h' => zrun zP sv C 85 43 [l0, l1, l2, l3, l4] (v.toList ++ [r0]) h') (fun E h' => some (.inr E, h'))) := zx_cv (x0 := 6) rfl rfl rfl rfl rfl ⟨Nat.le_of_ble_eq_true rfl, rfl⟩ (fun _ _ => rfl)
theorem zs_85_43 : zrun zP sv C 85 43 [l0, l1, l2, l3, l4] (.int y :: .int x :: st) h = if x = y then zrun zP sv C 85 46 [l0, l1, l2, l3, l4] st h else zrun zP sv C 85 107 [l0, l1, l2, l3, l4] st h := (zx_ic rfl rfl).trans zc1_if
theorem zs_85_46 : zrun zP sv C 85 46 [.val (.ref a), l1, l2, l3, l4] st h = zrun zP sv C 85 47 [.val (.ref a), l1, l2, l3, l4] (.ref a :: st) h := zx_go rfl rfl
theorem zs_85_47 : zrun zP sv C 85 47 [l0, .val (.int x), l2, l3, l4] st h = zrun zP sv C 85 48 [l0, .val (.int x), l2, l3, l4] (.int x :: st) h := zx_go rfl rfl
theorem zs_85_48 : zrun zP sv C 85 48 [l0, l1, l2, l3, l4] [v1, .ref b] h = zrc (h.1 b) 6 (zbk (C 185 [.ref b, v1] h) (fun v h' => zrun zP sv C 85 51 [l0, l1, l2, l3, l4] (v.toList ++ []) h') (fun E h' => some (.inr E, h'))) := zx_cv (x0 := 6) rfl rfl rfl rfl rfl ⟨Nat.le_of_ble_eq_true rfl, rfl⟩ (fun _ _ => rfl)
theorem zs_85_51 : zrun zP sv C 85 51 [l0, l1, .val (.ref a), l3, l4] st h = zrun zP sv C 85 52 [l0, l1, .val (.ref a), l3, l4] (.ref a :: st) h := zx_go rfl rfl
theorem zs_85_52 : zrun zP sv C 85 52 [l0, l1, l2, .val (.int x), l4] st h = zrun zP sv C 85 53 [l0, l1, l2, .val (.int x), l4] (.int x :: st) h := zx_go rfl rfl
theorem zs_85_53 : zrun zP sv C 85 53 [l0, l1, l2, l3, l4] [v1, .ref b, r0] h = zrc (h.1 b) 6 (zbk (C 185 [.ref b, v1] h) (fun v h' => zrun zP sv C 85 56 [l0, l1, l2, l3, l4] (v.toList ++ [r0]) h') (fun E h' => some (.inr E, h'))) := zx_cv (x0 := 6) rfl rfl rfl rfl rfl ⟨Nat.le_of_ble_eq_true rfl, rfl⟩ (fun _ _ => rfl)
theorem zs_85_56 : zrun zP sv C 85 56 [l0, l1, l2, l3, l4] (.int y :: .int x :: st) h = if x = y then zrun zP sv C 85 59 [l0, l1, l2, l3, l4] st h else zrun zP sv C 85 107 [l0, l1, l2, l3, l4] st h := (zx_ic rfl rfl).trans zc1_if
theorem zs_85_59 : zrun zP sv C 85 59 [.val (.ref a), l1, l2, l3, l4] st h = zrun zP sv C 85 60 [.val (.ref a), l1, l2, l3, l4] (.ref a :: st) h := zx_go rfl rfl
theorem zs_85_60 : zrun zP sv C 85 60 [.val (.ref a), l1, l2, l3, l4] st h = zrun zP sv C 85 61 [.val (.ref a), l1, l2, l3, l4] (.ref a :: st) h := zx_go rfl rfl
theorem zs_85_61 : zrun zP sv C 85 61 [l0, .val (.int x), l2, l3, l4] st h = zrun zP sv C 85 62 [l0, .val (.int x), l2, l3, l4] (.int x :: st) h := zx_go rfl rfl
theorem zs_85_62 : zrun zP sv C 85 62 [l0, l1, l2, l3, l4] [v1, .ref b, r0] h = zrc (h.1 b) 6 (zbk (C 186 [.ref b, v1] h) (fun v h' => zrun zP sv C 85 65 [l0, l1, l2, l3, l4] (v.toList ++ [r0]) h') (fun E h' => some (.inr E, h'))) := zx_cv (x0 := 6) rfl rfl rfl rfl rfl ⟨Nat.le_of_ble_eq_true rfl, rfl⟩ (fun _ _ => rfl)
theorem zs_85_65 : zrun zP sv C 85 65 [l0, l1, .val (.ref a), l3, l4] st h = zrun zP sv C 85 66 [l0, l1, .val (.ref a), l3, l4] (.ref a :: st) h := zx_go rfl rfl
theorem zs_85_66 : zrun zP sv C 85 66 [l0, l1, .val (.ref a), l3, l4] st h = zrun zP sv C 85 67 [l0, l1, .val (.ref a), l3, l4] (.ref a :: st) h := zx_go rfl rfl
theorem zs_85_67 : zrun zP sv C 85 67 [l0, l1, l2, .val (.int x), l4] st h = zrun zP sv C 85 68 [l0, l1, l2, .val (.int x), l4] (.int x :: st) h := zx_go rfl rfl
theorem zs_85_68 : zrun zP sv C 85 68 [l0, l1, l2, l3, l4] [v1, .ref b, r0, r1, r2] h = zrc (h.1 b) 6 (zbk (C 186 [.ref b, v1] h) (fun v h' => zrun zP sv C 85 71 [l0, l1, l2, l3, l4] (v.toList ++ [r0, r1, r2]) h') (fun E h' => some (.inr E, h'))) := zx_cv (x0 := 6) rfl rfl rfl rfl rfl ⟨Nat.le_of_ble_eq_true rfl, rfl⟩ (fun _ _ => rfl)
theorem zs_85_71 : zrun zP sv C 85 71 [l0, l1, l2, l3, .val (.int x)] st h = zrun zP sv C 85 73 [l0, l1, l2, l3, .val (.int x)] (.int x :: st) h := zx_go rfl rfl
theorem zs_85_73 : zrun zP sv C 85 73 [l0, l1, l2, l3, l4] st h = zrun zP sv C 85 74 [l0, l1, l2, l3, l4] (.int (nI 1) :: st) h := zx_go rfl rfl
theorem zs_85_74 : zrun zP sv C 85 74 [l0, l1, l2, l3, l4] (.int y :: .int x :: st) h = zrun zP sv C 85 75 [l0, l1, l2, l3, l4] (.int (x + y) :: st) h := zx_go rfl rfl
theorem zs_85_75 : zrun zP sv C 85 75 [l0, l1, l2, l3, l4] [v4, v3, v2, v1, v0] h = zbk (C 85 [v0, v1, v2, v3, v4] h) (fun v h' => zrun zP sv C 85 78 [l0, l1, l2, l3, l4] (v.toList ++ []) h') (fun E h' => some (.inr E, h')) := zx_cs rfl rfl rfl rfl ⟨Nat.le_of_ble_eq_true rfl, rfl⟩ (fun _ _ => rfl)
theorem zs_85_78 : zrun zP sv C 85 78 [l0, l1, l2, l3, l4] (.int x :: st) h = if x = 0 then zrun zP sv C 85 107 [l0, l1, l2, l3, l4] st h else zrun zP sv C 85 81 [l0, l1, l2, l3, l4] st h := (zx_if rfl rfl).trans zc0_if
theorem zs_85_81 : zrun zP sv C 85 81 [.val (.ref a), l1, l2, l3, l4] st h = zrun zP sv C 85 82 [.val (.ref a), l1, l2, l3, l4] (.ref a :: st) h := zx_go rfl rfl
theorem zs_85_82 : zrun zP sv C 85 82 [.val (.ref a), l1, l2, l3, l4] st h = zrun zP sv C 85 83 [.val (.ref a), l1, l2, l3, l4] (.ref a :: st) h := zx_go rfl rfl
theorem zs_85_83 : zrun zP sv C 85 83 [l0, .val (.int x), l2, l3, l4] st h = zrun zP sv C 85 84 [l0, .val (.int x), l2, l3, l4] (.int x :: st) h := zx_go rfl rfl
theorem zs_85_84 : zrun zP sv C 85 84 [l0, l1, l2, l3, l4] [v1, .ref b, r0] h = zrc (h.1 b) 6 (zbk (C 187 [.ref b, v1] h) (fun v h' => zrun zP sv C 85 87 [l0, l1, l2, l3, l4] (v.toList ++ [r0]) h') (fun E h' => some (.inr E, h'))) := zx_cv (x0 := 6) rfl rfl rfl rfl rfl ⟨Nat.le_of_ble_eq_true rfl, rfl⟩ (fun _ _ => rfl)
theorem zs_85_87 : zrun zP sv C 85 87 [l0, l1, .val (.ref a), l3, l4] st h = zrun zP sv C 85 88 [l0, l1, .val (.ref a), l3, l4] (.ref a :: st) h := zx_go rfl rfl
theorem zs_85_88 : zrun zP sv C 85 88 [l0, l1, .val (.ref a), l3, l4] st h = zrun zP sv C 85 89 [l0, l1, .val (.ref a), l3, l4] (.ref a :: st) h := zx_go rfl rfl
theorem zs_85_89 : zrun zP sv C 85 89 [l0, l1, l2, .val (.int x), l4] st h = zrun zP sv C 85 90 [l0, l1, l2, .val (.int x), l4] (.int x :: st) h := zx_go rfl rfl
theorem zs_85_90 : zrun zP sv C 85 90 [l0, l1, l2, l3, l4] [v1, .ref b, r0, r1, r2] h = zrc (h.1 b) 6 (zbk (C 187 [.ref b, v1] h) (fun v h' => zrun zP sv C 85 93 [l0, l1, l2, l3, l4] (v.toList ++ [r0, r1, r2]) h') (fun E h' => some (.inr E, h'))) := zx_cv (x0 := 6) rfl rfl rfl rfl rfl ⟨Nat.le_of_ble_eq_true rfl, rfl⟩ (fun _ _ => rfl)
theorem zs_85_93 : zrun zP sv C 85 93 [l0, l1, l2, l3, .val (.int x)] st h = zrun zP sv C 85 95 [l0, l1, l2, l3, .val (.int x)] (.int x :: st) h := zx_go rfl rfl
theorem zs_85_95 : zrun zP sv C 85 95 [l0, l1, l2, l3, l4] st h = zrun zP sv C 85 96 [l0, l1, l2, l3, l4] (.int (nI 1) :: st) h := zx_go rfl rfl
theorem zs_85_96 : zrun zP sv C 85 96 [l0, l1, l2, l3, l4] (.int y :: .int x :: st) h = zrun zP sv C 85 97 [l0, l1, l2, l3, l4] (.int (x + y) :: st) h := zx_go rfl rfl
theorem zs_85_97 : zrun zP sv C 85 97 [l0, l1, l2, l3, l4] [v4, v3, v2, v1, v0] h = zbk (C 85 [v0, v1, v2, v3, v4] h) (fun v h' => zrun zP sv C 85 100 [l0, l1, l2, l3, l4] (v.toList ++ []) h') (fun E h' => some (.inr E, h')) := zx_cs rfl rfl rfl rfl ⟨Nat.le_of_ble_eq_true rfl, rfl⟩ (fun _ _ => rfl)
theorem zs_85_100 : zrun zP sv C 85 100 [l0, l1, l2, l3, l4] (.int x :: st) h = if x = 0 then zrun zP sv C 85 107 [l0, l1, l2, l3, l4] st h else zrun zP sv C 85 103 [l0, l1, l2, l3, l4] st h := (zx_if rfl rfl).trans zc0_if
theorem zs_85_103 : zrun zP sv C 85 103 [l0, l1, l2, l3, l4] st h = zrun zP sv C 85 104 [l0, l1, l2, l3, l4] (.int (nI 1) :: st) h := zx_go rfl rfl
theorem zs_85_104 : zrun zP sv C 85 104 [l0, l1, l2, l3, l4] st h = zrun zP sv C 85 108 [l0, l1, l2, l3, l4] st h := zx_go rfl rfl
theorem zs_85_107 : zrun zP sv C 85 107 [l0, l1, l2, l3, l4] st h = zrun zP sv C 85 108 [l0, l1, l2, l3, l4] (.int 0 :: st) h := zx_go rfl rfl
theorem zs_85_108 : zrun zP sv C 85 108 [l0, l1, l2, l3, l4] [.int x] h = zgd (zty 5 (.int x)) (some (.inl (some (.int x)), h)) := zx_rt rfl
theorem zs_86_0 : zrun zP sv C 86 0 [l0, .val (.int x), l2, l3, l4, l5] st h = zrun zP sv C 86 1 [l0, .val (.int x), l2, l3, l4, l5] (.int x :: st) h := zx_go rfl rfl
theorem zs_86_1 : zrun zP sv C 86 1 [l0, l1, l2, l3, l4, l5] st h = zrun zP sv C 86 2 [l0, l1, l2, l3, l4, l5] (.int (-1) :: st) h := zx_go rfl rfl
theorem zs_86_2 : zrun zP sv C 86 2 [l0, l1, l2, l3, l4, l5] (.int y :: .int x :: st) h = if x = y then zrun zP sv C 86 11 [l0, l1, l2, l3, l4, l5] st h else zrun zP sv C 86 5 [l0, l1, l2, l3, l4, l5] st h := (zx_ic rfl rfl).trans zc0_if
theorem zs_86_5 : zrun zP sv C 86 5 [l0, l1, l2, .val (.int x), l4, l5] st h = zrun zP sv C 86 6 [l0, l1, l2, .val (.int x), l4, l5] (.int x :: st) h := zx_go rfl rfl
theorem zs_86_6 : zrun zP sv C 86 6 [l0, l1, l2, l3, l4, l5] st h = zrun zP sv C 86 8 [l0, l1, l2, l3, l4, l5] (.int (nI 40) :: st) h := zx_go rfl rfl
theorem zs_86_8 : zrun zP sv C 86 8 [l0, l1, l2, l3, l4, l5] (.int y :: .int x :: st) h = if y < x then zrun zP sv C 86 11 [l0, l1, l2, l3, l4, l5] st h else zrun zP sv C 86 13 [l0, l1, l2, l3, l4, l5] st h := (zx_ic rfl rfl).trans zc5_if
theorem zs_86_11 : zrun zP sv C 86 11 [l0, l1, l2, l3, l4, l5] st h = zrun zP sv C 86 12 [l0, l1, l2, l3, l4, l5] (.int (-1) :: st) h := zx_go rfl rfl
theorem zs_86_12 : zrun zP sv C 86 12 [l0, l1, l2, l3, l4, l5] [.int x] h = some (.inl (some (.int x)), h) := zx_end rfl rfl
theorem zs_86_13 : zrun zP sv C 86 13 [.val (.ref a), l1, l2, l3, l4, l5] st h = zrun zP sv C 86 14 [.val (.ref a), l1, l2, l3, l4, l5] (.ref a :: st) h := zx_go rfl rfl
theorem zs_86_14 : zrun zP sv C 86 14 [.val (.ref a), l1, l2, l3, l4, l5] st h = zrun zP sv C 86 15 [.val (.ref a), l1, l2, l3, l4, l5] (.ref a :: st) h := zx_go rfl rfl
theorem zs_86_15 : zrun zP sv C 86 15 [l0, .val (.int x), l2, l3, l4, l5] st h = zrun zP sv C 86 16 [l0, .val (.int x), l2, l3, l4, l5] (.int x :: st) h := zx_go rfl rfl
theorem zs_86_16 : zrun zP sv C 86 16 [l0, l1, l2, l3, l4, l5] [v1, .ref b, r0] h = zrc (h.1 b) 6 (zbk (C 186 [.ref b, v1] h) (fun v h' => zrun zP sv C 86 19 [l0, l1, l2, l3, l4, l5] (v.toList ++ [r0]) h') (fun E h' => some (.inr E, h'))) := zx_cv (x0 := 6) rfl rfl rfl rfl rfl ⟨Nat.le_of_ble_eq_true rfl, rfl⟩ (fun _ _ => rfl)
theorem zs_86_19 : zrun zP sv C 86 19 [l0, l1, .val (.ref a), l3, l4, l5] st h = zrun zP sv C 86 20 [l0, l1, .val (.ref a), l3, l4, l5] (.ref a :: st) h := zx_go rfl rfl
theorem zs_86_20 : zrun zP sv C 86 20 [l0, l1, l2, .val (.int x), l4, l5] st h = zrun zP sv C 86 21 [l0, l1, l2, .val (.int x), l4, l5] (.int x :: st) h := zx_go rfl rfl
theorem zs_86_21 : zrun zP sv C 86 21 [l0, l1, l2, l3, l4, l5] st h = zrun zP sv C 86 22 [l0, l1, l2, l3, l4, l5] (.int (nI 1) :: st) h := zx_go rfl rfl
theorem zs_86_22 : zrun zP sv C 86 22 [l0, l1, l2, l3, l4, l5] (.int y :: .int x :: st) h = zrun zP sv C 86 23 [l0, l1, l2, l3, l4, l5] (.int (x + y) :: st) h := zx_go rfl rfl
theorem zs_86_23 : zrun zP sv C 86 23 [l0, l1, l2, l3, l4, l5] [v3, v2, v1, v0] h = zbk (C 86 [v0, v1, v2, v3] h) (fun v h' => zrun zP sv C 86 26 [l0, l1, l2, l3, l4, l5] (v.toList ++ []) h') (fun E h' => some (.inr E, h')) := zx_cs rfl rfl rfl rfl ⟨Nat.le_of_ble_eq_true rfl, rfl⟩ (fun _ _ => rfl)
theorem zs_86_26 (hs : znw l4 = true) : zrun zP sv C 86 26 [l0, l1, l2, l3, l4, l5] (.int x :: st) h = zrun zP sv C 86 28 [l0, l1, l2, l3, .val (.int x), l5] st h := zx_st hs rfl rfl rfl rfl rfl rfl
theorem zs_86_28 : zrun zP sv C 86 28 [.val (.ref a), l1, l2, l3, l4, l5] st h = zrun zP sv C 86 29 [.val (.ref a), l1, l2, l3, l4, l5] (.ref a :: st) h := zx_go rfl rfl
theorem zs_86_29 : zrun zP sv C 86 29 [.val (.ref a), l1, l2, l3, l4, l5] st h = zrun zP sv C 86 30 [.val (.ref a), l1, l2, l3, l4, l5] (.ref a :: st) h := zx_go rfl rfl
theorem zs_86_30 : zrun zP sv C 86 30 [l0, .val (.int x), l2, l3, l4, l5] st h = zrun zP sv C 86 31 [l0, .val (.int x), l2, l3, l4, l5] (.int x :: st) h := zx_go rfl rfl
theorem zs_86_31 : zrun zP sv C 86 31 [l0, l1, l2, l3, l4, l5] [v1, .ref b, r0] h = zrc (h.1 b) 6 (zbk (C 187 [.ref b, v1] h) (fun v h' => zrun zP sv C 86 34 [l0, l1, l2, l3, l4, l5] (v.toList ++ [r0]) h') (fun E h' => some (.inr E, h'))) := zx_cv (x0 := 6) rfl rfl rfl rfl rfl ⟨Nat.le_of_ble_eq_true rfl, rfl⟩ (fun _ _ => rfl)
theorem zs_86_34 : zrun zP sv C 86 34 [l0, l1, .val (.ref a), l3, l4, l5] st h = zrun zP sv C 86 35 [l0, l1, .val (.ref a), l3, l4, l5] (.ref a :: st) h := zx_go rfl rfl
theorem zs_86_35 : zrun zP sv C 86 35 [l0, l1, l2, .val (.int x), l4, l5] st h = zrun zP sv C 86 36 [l0, l1, l2, .val (.int x), l4, l5] (.int x :: st) h := zx_go rfl rfl
theorem zs_86_36 : zrun zP sv C 86 36 [l0, l1, l2, l3, l4, l5] st h = zrun zP sv C 86 37 [l0, l1, l2, l3, l4, l5] (.int (nI 1) :: st) h := zx_go rfl rfl
theorem zs_86_37 : zrun zP sv C 86 37 [l0, l1, l2, l3, l4, l5] (.int y :: .int x :: st) h = zrun zP sv C 86 38 [l0, l1, l2, l3, l4, l5] (.int (x + y) :: st) h := zx_go rfl rfl
theorem zs_86_38 : zrun zP sv C 86 38 [l0, l1, l2, l3, l4, l5] [v3, v2, v1, v0] h = zbk (C 86 [v0, v1, v2, v3] h) (fun v h' => zrun zP sv C 86 41 [l0, l1, l2, l3, l4, l5] (v.toList ++ []) h') (fun E h' => some (.inr E, h')) := zx_cs rfl rfl rfl rfl ⟨Nat.le_of_ble_eq_true rfl, rfl⟩ (fun _ _ => rfl)
theorem zs_86_41 (hs : znw l5 = true) : zrun zP sv C 86 41 [l0, l1, l2, l3, l4, l5] (.int x :: st) h = zrun zP sv C 86 43 [l0, l1, l2, l3, l4, .val (.int x)] st h := zx_st hs rfl rfl rfl rfl rfl rfl
theorem zs_86_43 : zrun zP sv C 86 43 [l0, l1, .val (.ref a), l3, l4, l5] st h = zrun zP sv C 86 44 [l0, l1, .val (.ref a), l3, l4, l5] (.ref a :: st) h := zx_go rfl rfl
theorem zs_86_44 : zrun zP sv C 86 44 [.val (.ref a), l1, l2, l3, l4, l5] st h = zrun zP sv C 86 45 [.val (.ref a), l1, l2, l3, l4, l5] (.ref a :: st) h := zx_go rfl rfl
theorem zs_86_45 : zrun zP sv C 86 45 [l0, .val (.int x), l2, l3, l4, l5] st h = zrun zP sv C 86 46 [l0, .val (.int x), l2, l3, l4, l5] (.int x :: st) h := zx_go rfl rfl
theorem zs_86_46 : zrun zP sv C 86 46 [l0, l1, l2, l3, l4, l5] [v1, .ref b, r0] h = zrc (h.1 b) 6 (zbk (C 184 [.ref b, v1] h) (fun v h' => zrun zP sv C 86 49 [l0, l1, l2, l3, l4, l5] (v.toList ++ [r0]) h') (fun E h' => some (.inr E, h'))) := zx_cv (x0 := 6) rfl rfl rfl rfl rfl ⟨Nat.le_of_ble_eq_true rfl, rfl⟩ (fun _ _ => rfl)
theorem zs_86_49 : zrun zP sv C 86 49 [.val (.ref a), l1, l2, l3, l4, l5] st h = zrun zP sv C 86 50 [.val (.ref a), l1, l2, l3, l4, l5] (.ref a :: st) h := zx_go rfl rfl
theorem zs_86_50 : zrun zP sv C 86 50 [l0, .val (.int x), l2, l3, l4, l5] st h = zrun zP sv C 86 51 [l0, .val (.int x), l2, l3, l4, l5] (.int x :: st) h := zx_go rfl rfl
theorem zs_86_51 : zrun zP sv C 86 51 [l0, l1, l2, l3, l4, l5] [v1, .ref b, r0, r1] h = zrc (h.1 b) 6 (zbk (C 185 [.ref b, v1] h) (fun v h' => zrun zP sv C 86 54 [l0, l1, l2, l3, l4, l5] (v.toList ++ [r0, r1]) h') (fun E h' => some (.inr E, h'))) := zx_cv (x0 := 6) rfl rfl rfl rfl rfl ⟨Nat.le_of_ble_eq_true rfl, rfl⟩ (fun _ _ => rfl)
theorem zs_86_54 : zrun zP sv C 86 54 [l0, l1, l2, l3, .val (.int x), l5] st h = zrun zP sv C 86 56 [l0, l1, l2, l3, .val (.int x), l5] (.int x :: st) h := zx_go rfl rfl
theorem zs_86_56 : zrun zP sv C 86 56 [l0, l1, l2, l3, l4, .val (.int x)] st h = zrun zP sv C 86 58 [l0, l1, l2, l3, l4, .val (.int x)] (.int x :: st) h := zx_go rfl rfl
theorem zs_86_58 : zrun zP sv C 86 58 [l0, l1, l2, l3, l4, l5] [v4, v3, v2, v1, .ref b] h = zrc (h.1 b) 6 (zbk (C 191 [.ref b, v1, v2, v3, v4] h) (fun v h' => zrun zP sv C 86 61 [l0, l1, l2, l3, l4, l5] (v.toList ++ []) h') (fun E h' => some (.inr E, h'))) := zx_cv (x0 := 6) rfl rfl rfl rfl rfl ⟨Nat.le_of_ble_eq_true rfl, rfl⟩ (fun _ _ => rfl)
theorem zs_86_61 : zrun zP sv C 86 61 [l0, l1, l2, l3, l4, l5] [.int x] h = some (.inl (some (.int x)), h) := zx_end rfl rfl
theorem zs_87_0 : zrun zP sv C 87 0 [.val (.int x)] st h = zrun zP sv C 87 1 [.val (.int x)] (.int x :: st) h := zx_go rfl rfl
theorem zs_87_1 : zrun zP sv C 87 1 [l0] st h = zrun zP sv C 87 3 [l0] (.int (nI 43) :: st) h := zx_go rfl rfl
theorem zs_87_3 : zrun zP sv C 87 3 [l0] (.int y :: .int x :: st) h = if x = y then zrun zP sv C 87 12 [l0] st h else zrun zP sv C 87 6 [l0] st h := (zx_ic rfl rfl).trans zc0_if
theorem zs_87_6 : zrun zP sv C 87 6 [.val (.int x)] st h = zrun zP sv C 87 7 [.val (.int x)] (.int x :: st) h := zx_go rfl rfl
theorem zs_87_7 : zrun zP sv C 87 7 [l0] st h = zrun zP sv C 87 9 [l0] (.int (nI 45) :: st) h := zx_go rfl rfl
theorem zs_87_9 : zrun zP sv C 87 9 [l0] (.int y :: .int x :: st) h = if x = y then zrun zP sv C 87 12 [l0] st h else zrun zP sv C 87 14 [l0] st h := (zx_ic rfl rfl).trans zc1_if
theorem zs_87_12 : zrun zP sv C 87 12 [l0] st h = zrun zP sv C 87 13 [l0] (.int (nI 1) :: st) h := zx_go rfl rfl
theorem zs_87_13 : zrun zP sv C 87 13 [l0] [.int x] h = some (.inl (some (.int x)), h) := zx_end rfl rfl
theorem zs_87_14 : zrun zP sv C 87 14 [.val (.int x)] st h = zrun zP sv C 87 15 [.val (.int x)] (.int x :: st) h := zx_go rfl rfl
theorem zs_87_15 : zrun zP sv C 87 15 [l0] st h = zrun zP sv C 87 17 [l0] (.int (nI 42) :: st) h := zx_go rfl rfl
theorem zs_87_17 : zrun zP sv C 87 17 [l0] (.int y :: .int x :: st) h = if x = y then zrun zP sv C 87 20 [l0] st h else zrun zP sv C 87 24 [l0] st h := (zx_ic rfl rfl).trans zc1_if
theorem zs_87_20 : zrun zP sv C 87 20 [l0] st h = zrun zP sv C 87 21 [l0] (.int (nI 2) :: st) h := zx_go rfl rfl
theorem zs_87_21 : zrun zP sv C 87 21 [l0] st h = zrun zP sv C 87 25 [l0] st h := zx_go rfl rfl
theorem zs_87_24 : zrun zP sv C 87 24 [l0] st h = zrun zP sv C 87 25 [l0] (.int (nI 3) :: st) h := zx_go rfl rfl
theorem zs_87_25 : zrun zP sv C 87 25 [l0] [.int x] h = some (.inl (some (.int x)), h) := zx_end rfl rfl
theorem zs_88_0 : zrun zP sv C 88 0 [.val (.ref a), l1, l2, l3, l4, l5, l6, l7] st h = zrun zP sv C 88 1 [.val (.ref a), l1, l2, l3, l4, l5, l6, l7] (.ref a :: st) h := zx_go rfl rfl
theorem zs_88_1 : zrun zP sv C 88 1 [l0, .val (.int x), l2, l3, l4, l5, l6, l7] st h = zrun zP sv C 88 2 [l0, .val (.int x), l2, l3, l4, l5, l6, l7] (.int x :: st) h := zx_go rfl rfl
theorem zs_88_2 : zrun zP sv C 88 2 [l0, l1, l2, l3, l4, l5, l6, l7] [v1, .ref b] h = zrc (h.1 b) 6 (zbk (C 184 [.ref b, v1] h) (fun v h' => zrun zP sv C 88 5 [l0, l1, l2, l3, l4, l5, l6, l7] (v.toList ++ []) h') (fun E h' => some (.inr E, h'))) := zx_cv (x0 := 6) rfl rfl rfl rfl rfl ⟨Nat.le_of_ble_eq_true rfl, rfl⟩ (fun _ _ => rfl)
theorem zs_88_5 (hs : znw l6 = true) : zrun zP sv C 88 5 [l0, l1, l2, l3, l4, l5, l6, l7] (.int x :: st) h = zrun zP sv C 88 7 [l0, l1, l2, l3, l4, l5, .val (.int x), l7] st h := zx_st hs rfl rfl rfl rfl rfl rfl
theorem zs_88_7 : zrun zP sv C 88 7 [l0, l1, l2, l3, l4, l5, .val (.int x), l7] st h = zrun zP sv C 88 9 [l0, l1, l2, l3, l4, l5, .val (.int x), l7] (.int x :: st) h := zx_go rfl rfl
theorem zs_88_9 : zrun zP sv C 88 9 [l0, l1, l2, l3, l4, l5, l6, l7] st h = zrun zP sv C 88 11 [l0, l1, l2, l3, l4, l5, l6, l7] (.int (nI 110) :: st) h := zx_go rfl rfl
theorem zs_88_11 : zrun zP sv C 88 11 [l0, l1, l2, l3, l4, l5, l6, l7] (.int y :: .int x :: st) h = if x = y then zrun zP sv C 88 14 [l0, l1, l2, l3, l4, l5, l6, l7] st h else zrun zP sv C 88 24 [l0, l1, l2, l3, l4, l5, l6, l7] st h := (zx_ic rfl rfl).trans zc1_if
theorem zs_88_14 : zrun zP sv C 88 14 [l0, l1, l2, .val (.int x), l4, l5, l6, l7] st h = zrun zP sv C 88 15 [l0, l1, l2, .val (.int x), l4, l5, l6, l7] (.int x :: st) h := zx_go rfl rfl
theorem zs_88_15 : zrun zP sv C 88 15 [l0, l1, l2, l3, l4, l5, l6, l7] st h = zrun zP sv C 88 17 [l0, l1, l2, l3, l4, l5, l6, l7] (.int (nI 6) :: st) h := zx_go rfl rfl
theorem zs_88_17 : zrun zP sv C 88 17 [l0, l1, l2, l3, l4, l5, l6, l7] (.int y :: .int x :: st) h = if x < y then zrun zP sv C 88 24 [l0, l1, l2, l3, l4, l5, l6, l7] st h else zrun zP sv C 88 20 [l0, l1, l2, l3, l4, l5, l6, l7] st h := (zx_ic rfl rfl).trans zc2_if
theorem zs_88_20 : zrun zP sv C 88 20 [l0, l1, l2, l3, l4, l5, l6, l7] st h = zrun zP sv C 88 21 [l0, l1, l2, l3, l4, l5, l6, l7] (.int (nI 1) :: st) h := zx_go rfl rfl
theorem zs_88_21 : zrun zP sv C 88 21 [l0, l1, l2, l3, l4, l5, l6, l7] st h = zrun zP sv C 88 25 [l0, l1, l2, l3, l4, l5, l6, l7] st h := zx_go rfl rfl
theorem zs_88_24 : zrun zP sv C 88 24 [l0, l1, l2, l3, l4, l5, l6, l7] st h = zrun zP sv C 88 25 [l0, l1, l2, l3, l4, l5, l6, l7] (.int 0 :: st) h := zx_go rfl rfl
theorem zs_88_25 (hs : znw l7 = true) : zrun zP sv C 88 25 [l0, l1, l2, l3, l4, l5, l6, l7] (.int x :: st) h = zrun zP sv C 88 27 [l0, l1, l2, l3, l4, l5, l6, .val (.int x)] st h := zx_st hs rfl rfl rfl rfl rfl rfl
theorem zs_88_27 : zrun zP sv C 88 27 [l0, l1, l2, l3, l4, l5, .val (.int x), l7] st h = zrun zP sv C 88 29 [l0, l1, l2, l3, l4, l5, .val (.int x), l7] (.int x :: st) h := zx_go rfl rfl
theorem zs_88_29 : zrun zP sv C 88 29 [l0, l1, l2, l3, l4, l5, l6, l7] [v0] h = zbk (C 87 [v0] h) (fun v h' => zrun zP sv C 88 32 [l0, l1, l2, l3, l4, l5, l6, l7] (v.toList ++ []) h') (fun E h' => some (.inr E, h')) := zx_cs rfl rfl rfl rfl ⟨Nat.le_of_ble_eq_true rfl, rfl⟩ (fun _ _ => rfl)
theorem zs_88_32 : zrun zP sv C 88 32 [l0, l1, .val (.int x), l3, l4, l5, l6, l7] st h = zrun zP sv C 88 33 [l0, l1, .val (.int x), l3, l4, l5, l6, l7] (.int x :: st) h := zx_go rfl rfl
theorem zs_88_33 : zrun zP sv C 88 33 [l0, l1, l2, l3, l4, l5, l6, l7] (.int y :: .int x :: st) h = if x < y then zrun zP sv C 88 41 [l0, l1, l2, l3, l4, l5, l6, l7] st h else zrun zP sv C 88 36 [l0, l1, l2, l3, l4, l5, l6, l7] st h := (zx_ic rfl rfl).trans zc2_if
theorem zs_88_36 : zrun zP sv C 88 36 [l0, l1, l2, l3, l4, l5, l6, .val (.int x)] st h = zrun zP sv C 88 38 [l0, l1, l2, l3, l4, l5, l6, .val (.int x)] (.int x :: st) h := zx_go rfl rfl
theorem zs_88_38 : zrun zP sv C 88 38 [l0, l1, l2, l3, l4, l5, l6, l7] (.int x :: st) h = if x = 0 then zrun zP sv C 88 70 [l0, l1, l2, l3, l4, l5, l6, l7] st h else zrun zP sv C 88 41 [l0, l1, l2, l3, l4, l5, l6, l7] st h := (zx_if rfl rfl).trans zc0_if
theorem zs_88_41 : zrun zP sv C 88 41 [l0, l1, l2, l3, .val (.ref a), l5, l6, l7] st h = zrun zP sv C 88 43 [l0, l1, l2, l3, .val (.ref a), l5, l6, l7] (.ref a :: st) h := zx_go rfl rfl
theorem zs_88_43 : zrun zP sv C 88 43 [l0, l1, l2, l3, l4, l5, l6, l7] st h = zrun zP sv C 88 45 [l0, l1, l2, l3, l4, l5, l6, l7] (.int (nI 40) :: st) h := zx_go rfl rfl
theorem zs_88_45 : zrun zP sv C 88 45 [l0, l1, l2, l3, l4, l5, l6, l7] [v1, .ref b] h = zrc (h.1 b) 2 (zbk (C 15 [.ref b, v1] h) (fun v h' => zrun zP sv C 88 48 [l0, l1, l2, l3, l4, l5, l6, l7] (v.toList ++ []) h') (fun E h' => some (.inr E, h'))) := zx_cv (x0 := 2) rfl rfl rfl rfl rfl ⟨Nat.le_of_ble_eq_true rfl, rfl⟩ (fun _ _ => rfl)
theorem zs_88_48 : zrun zP sv C 88 48 [l0, l1, l2, l3, l4, l5, l6, l7] (.ref a :: st) h = zrun zP sv C 88 49 [l0, l1, l2, l3, l4, l5, l6, l7] st h := zx_go rfl rfl
theorem zs_88_49 : zrun zP sv C 88 49 [.val (.ref a), l1, l2, l3, l4, l5, l6, l7] st h = zrun zP sv C 88 50 [.val (.ref a), l1, l2, l3, l4, l5, l6, l7] (.ref a :: st) h := zx_go rfl rfl
theorem zs_88_50 : zrun zP sv C 88 50 [l0, .val (.int x), l2, l3, l4, l5, l6, l7] st h = zrun zP sv C 88 51 [l0, .val (.int x), l2, l3, l4, l5, l6, l7] (.int x :: st) h := zx_go rfl rfl
theorem zs_88_51 : zrun zP sv C 88 51 [l0, l1, l2, l3, l4, l5, l6, l7] st h = zrun zP sv C 88 52 [l0, l1, l2, l3, l4, l5, l6, l7] (.int 0 :: st) h := zx_go rfl rfl
theorem zs_88_52 : zrun zP sv C 88 52 [l0, l1, l2, l3, .val (.ref a), l5, l6, l7] st h = zrun zP sv C 88 54 [l0, l1, l2, l3, .val (.ref a), l5, l6, l7] (.ref a :: st) h := zx_go rfl rfl
theorem zs_88_54 : zrun zP sv C 88 54 [l0, l1, l2, l3, l4, .val (.int x), l6, l7] st h = zrun zP sv C 88 56 [l0, l1, l2, l3, l4, .val (.int x), l6, l7] (.int x :: st) h := zx_go rfl rfl
theorem zs_88_56 : zrun zP sv C 88 56 [l0, l1, l2, l3, l4, l5, l6, l7] [v4, v3, v2, v1, v0] h = zbk (C 89 [v0, v1, v2, v3, v4] h) (fun v h' => zrun zP sv C 88 59 [l0, l1, l2, l3, l4, l5, l6, l7] (v.toList ++ []) h') (fun E h' => some (.inr E, h')) := zx_cs rfl rfl rfl rfl ⟨Nat.le_of_ble_eq_true rfl, rfl⟩ (fun _ _ => rfl)
theorem zs_88_59 : zrun zP sv C 88 59 [l0, l1, l2, l3, .val (.ref a), l5, l6, l7] st h = zrun zP sv C 88 61 [l0, l1, l2, l3, .val (.ref a), l5, l6, l7] (.ref a :: st) h := zx_go rfl rfl
theorem zs_88_61 : zrun zP sv C 88 61 [l0, l1, l2, l3, l4, l5, l6, l7] st h = zrun zP sv C 88 63 [l0, l1, l2, l3, l4, l5, l6, l7] (.int (nI 41) :: st) h := zx_go rfl rfl
theorem zs_88_63 : zrun zP sv C 88 63 [l0, l1, l2, l3, l4, l5, l6, l7] [v1, .ref b] h = zrc (h.1 b) 2 (zbk (C 15 [.ref b, v1] h) (fun v h' => zrun zP sv C 88 66 [l0, l1, l2, l3, l4, l5, l6, l7] (v.toList ++ []) h') (fun E h' => some (.inr E, h'))) := zx_cv (x0 := 2) rfl rfl rfl rfl rfl ⟨Nat.le_of_ble_eq_true rfl, rfl⟩ (fun _ _ => rfl)
theorem zs_88_66 : zrun zP sv C 88 66 [l0, l1, l2, l3, l4, l5, l6, l7] (.ref a :: st) h = zrun zP sv C 88 67 [l0, l1, l2, l3, l4, l5, l6, l7] st h := zx_go rfl rfl
theorem zs_88_67 : zrun zP sv C 88 67 [l0, l1, l2, l3, l4, l5, l6, l7] st h = zrun zP sv C 88 80 [l0, l1, l2, l3, l4, l5, l6, l7] st h := zx_go rfl rfl
theorem zs_88_70 : zrun zP sv C 88 70 [.val (.ref a), l1, l2, l3, l4, l5, l6, l7] st h = zrun zP sv C 88 71 [.val (.ref a), l1, l2, l3, l4, l5, l6, l7] (.ref a :: st) h := zx_go rfl rfl
theorem zs_88_71 : zrun zP sv C 88 71 [l0, .val (.int x), l2, l3, l4, l5, l6, l7] st h = zrun zP sv C 88 72 [l0, .val (.int x), l2, l3, l4, l5, l6, l7] (.int x :: st) h := zx_go rfl rfl
theorem zs_88_72 : zrun zP sv C 88 72 [l0, l1, l2, .val (.int x), l4, l5, l6, l7] st h = zrun zP sv C 88 73 [l0, l1, l2, .val (.int x), l4, l5, l6, l7] (.int x :: st) h := zx_go rfl rfl
theorem zs_88_73 : zrun zP sv C 88 73 [l0, l1, l2, l3, .val (.ref a), l5, l6, l7] st h = zrun zP sv C 88 75 [l0, l1, l2, l3, .val (.ref a), l5, l6, l7] (.ref a :: st) h := zx_go rfl rfl
theorem zs_88_75 : zrun zP sv C 88 75 [l0, l1, l2, l3, l4, .val (.int x), l6, l7] st h = zrun zP sv C 88 77 [l0, l1, l2, l3, l4, .val (.int x), l6, l7] (.int x :: st) h := zx_go rfl rfl
theorem zs_88_77 : zrun zP sv C 88 77 [l0, l1, l2, l3, l4, l5, l6, l7] [v4, v3, v2, v1, v0] h = zbk (C 89 [v0, v1, v2, v3, v4] h) (fun v h' => zrun zP sv C 88 80 [l0, l1, l2, l3, l4, l5, l6, l7] (v.toList ++ []) h') (fun E h' => some (.inr E, h')) := zx_cs rfl rfl rfl rfl ⟨Nat.le_of_ble_eq_true rfl, rfl⟩ (fun _ _ => rfl)
theorem zs_88_80 : zrun zP sv C 88 80 [l0, l1, l2, l3, l4, l5, l6, l7] [] h = some (.inl none, h) := zx_end rfl rfl
theorem zs_89_0 : zrun zP sv C 89 0 [l0, l1, l2, l3, .val (.int x), l5, l6] st h = zrun zP sv C 89 2 [l0, l1, l2, l3, .val (.int x), l5, l6] (.int x :: st) h := zx_go rfl rfl
theorem zs_89_2 : zrun zP sv C 89 2 [l0, l1, l2, l3, l4, l5, l6] st h = zrun zP sv C 89 4 [l0, l1, l2, l3, l4, l5, l6] (.int (nI 40) :: st) h := zx_go rfl rfl
theorem zs_89_4 : zrun zP sv C 89 4 [l0, l1, l2, l3, l4, l5, l6] (.int y :: .int x :: st) h = if y < x then zrun zP sv C 89 7 [l0, l1, l2, l3, l4, l5, l6] st h else zrun zP sv C 89 8 [l0, l1, l2, l3, l4, l5, l6] st h := (zx_ic rfl rfl).trans zc5_if
theorem zs_89_7 : zrun zP sv C 89 7 [l0, l1, l2, l3, l4, l5, l6] [] h = some (.inl none, h) := zx_end rfl rfl
theorem zs_89_8 : zrun zP sv C 89 8 [.val (.ref a), l1, l2, l3, l4, l5, l6] st h = zrun zP sv C 89 9 [.val (.ref a), l1, l2, l3, l4, l5, l6] (.ref a :: st) h := zx_go rfl rfl
theorem zs_89_9 : zrun zP sv C 89 9 [l0, .val (.int x), l2, l3, l4, l5, l6] st h = zrun zP sv C 89 10 [l0, .val (.int x), l2, l3, l4, l5, l6] (.int x :: st) h := zx_go rfl rfl
theorem zs_89_10 : zrun zP sv C 89 10 [l0, l1, l2, l3, l4, l5, l6] [v1, .ref b] h = zrc (h.1 b) 6 (zbk (C 184 [.ref b, v1] h) (fun v h' => zrun zP sv C 89 13 [l0, l1, l2, l3, l4, l5, l6] (v.toList ++ []) h') (fun E h' => some (.inr E, h'))) := zx_cv (x0 := 6) rfl rfl rfl rfl rfl ⟨Nat.le_of_ble_eq_true rfl, rfl⟩ (fun _ _ => rfl)
theorem zs_89_13 (hs : znw l5 = true) : zrun zP sv C 89 13 [l0, l1, l2, l3, l4, l5, l6] (.int x :: st) h = zrun zP sv C 89 15 [l0, l1, l2, l3, l4, .val (.int x), l6] st h := zx_st hs rfl rfl rfl rfl rfl rfl
theorem zs_89_15 : zrun zP sv C 89 15 [l0, l1, l2, l3, l4, .val (.int x), l6] st h = zrun zP sv C 89 17 [l0, l1, l2, l3, l4, .val (.int x), l6] (.int x :: st) h := zx_go rfl rfl
theorem zs_89_17 : zrun zP sv C 89 17 [l0, l1, l2, l3, l4, l5, l6] st h = zrun zP sv C 89 19 [l0, l1, l2, l3, l4, l5, l6] (.int (nI 99) :: st) h := zx_go rfl rfl
theorem zs_89_19 : zrun zP sv C 89 19 [l0, l1, l2, l3, l4, l5, l6] (.int y :: .int x :: st) h = if x = y then zrun zP sv C 89 22 [l0, l1, l2, l3, l4, l5, l6] st h else zrun zP sv C 89 35 [l0, l1, l2, l3, l4, l5, l6] st h := (zx_ic rfl rfl).trans zc1_if
theorem zs_89_22 : zrun zP sv C 89 22 [l0, l1, l2, .val (.ref a), l4, l5, l6] st h = zrun zP sv C 89 23 [l0, l1, l2, .val (.ref a), l4, l5, l6] (.ref a :: st) h := zx_go rfl rfl
theorem zs_89_23 : zrun zP sv C 89 23 [.val (.ref a), l1, l2, l3, l4, l5, l6] st h = zrun zP sv C 89 24 [.val (.ref a), l1, l2, l3, l4, l5, l6] (.ref a :: st) h := zx_go rfl rfl
theorem zs_89_24 : zrun zP sv C 89 24 [l0, .val (.int x), l2, l3, l4, l5, l6] st h = zrun zP sv C 89 25 [l0, .val (.int x), l2, l3, l4, l5, l6] (.int x :: st) h := zx_go rfl rfl
theorem zs_89_25 : zrun zP sv C 89 25 [l0, l1, l2, l3, l4, l5, l6] [v1, .ref b, r0] h = zrc (h.1 b) 6 (zbk (C 185 [.ref b, v1] h) (fun v h' => zrun zP sv C 89 28 [l0, l1, l2, l3, l4, l5, l6] (v.toList ++ [r0]) h') (fun E h' => some (.inr E, h'))) := zx_cv (x0 := 6) rfl rfl rfl rfl rfl ⟨Nat.le_of_ble_eq_true rfl, rfl⟩ (fun _ _ => rfl)
theorem zs_89_28 : zrun zP sv C 89 28 [l0, l1, l2, l3, l4, l5, l6] [v1, .ref b] h = zrc (h.1 b) 2 (zbk (C 9 [.ref b, v1] h) (fun v h' => zrun zP sv C 89 31 [l0, l1, l2, l3, l4, l5, l6] (v.toList ++ []) h') (fun E h' => some (.inr E, h'))) := zx_cv (x0 := 2) rfl rfl rfl rfl rfl ⟨Nat.le_of_ble_eq_true rfl, rfl⟩ (fun _ _ => rfl)
theorem zs_89_31 : zrun zP sv C 89 31 [l0, l1, l2, l3, l4, l5, l6] (.ref a :: st) h = zrun zP sv C 89 32 [l0, l1, l2, l3, l4, l5, l6] st h := zx_go rfl rfl
theorem zs_89_32 : zrun zP sv C 89 32 [l0, l1, l2, l3, l4, l5, l6] st h = zrun zP sv C 89 142 [l0, l1, l2, l3, l4, l5, l6] st h := zx_go rfl rfl
theorem zs_89_35 : zrun zP sv C 89 35 [l0, l1, l2, l3, l4, .val (.int x), l6] st h = zrun zP sv C 89 37 [l0, l1, l2, l3, l4, .val (.int x), l6] (.int x :: st) h := zx_go rfl rfl
theorem zs_89_37 : zrun zP sv C 89 37 [l0, l1, l2, l3, l4, l5, l6] st h = zrun zP sv C 89 39 [l0, l1, l2, l3, l4, l5, l6] (.int (nI 118) :: st) h := zx_go rfl rfl
theorem zs_89_39 : zrun zP sv C 89 39 [l0, l1, l2, l3, l4, l5, l6] (.int y :: .int x :: st) h = if x = y then zrun zP sv C 89 42 [l0, l1, l2, l3, l4, l5, l6] st h else zrun zP sv C 89 56 [l0, l1, l2, l3, l4, l5, l6] st h := (zx_ic rfl rfl).trans zc1_if
theorem zs_89_42 : zrun zP sv C 89 42 [l0, l1, l2, .val (.ref a), l4, l5, l6] st h = zrun zP sv C 89 43 [l0, l1, l2, .val (.ref a), l4, l5, l6] (.ref a :: st) h := zx_go rfl rfl
theorem zs_89_43 : zrun zP sv C 89 43 [.val (.ref a), l1, l2, l3, l4, l5, l6] st h = zrun zP sv C 89 44 [.val (.ref a), l1, l2, l3, l4, l5, l6] (.ref a :: st) h := zx_go rfl rfl
theorem zs_89_44 : zrun zP sv C 89 44 [l0, .val (.int x), l2, l3, l4, l5, l6] st h = zrun zP sv C 89 45 [l0, .val (.int x), l2, l3, l4, l5, l6] (.int x :: st) h := zx_go rfl rfl
theorem zs_89_45 : zrun zP sv C 89 45 [l0, l1, l2, l3, l4, l5, l6] [v1, .ref b, r0] h = zrc (h.1 b) 6 (zbk (C 185 [.ref b, v1] h) (fun v h' => zrun zP sv C 89 48 [l0, l1, l2, l3, l4, l5, l6] (v.toList ++ [r0]) h') (fun E h' => some (.inr E, h'))) := zx_cv (x0 := 6) rfl rfl rfl rfl rfl ⟨Nat.le_of_ble_eq_true rfl, rfl⟩ (fun _ _ => rfl)
theorem zs_89_48 : zrun zP sv C 89 48 [l0, l1, l2, l3, l4, l5, l6] (.int x :: st) h = zrun zP sv C 89 49 [l0, l1, l2, l3, l4, l5, l6] (.int (x.toUInt32 % 65536).toInt32 :: st) h := zx_go rfl rfl
theorem zs_89_49 : zrun zP sv C 89 49 [l0, l1, l2, l3, l4, l5, l6] [v1, .ref b] h = zrc (h.1 b) 2 (zbk (C 15 [.ref b, v1] h) (fun v h' => zrun zP sv C 89 52 [l0, l1, l2, l3, l4, l5, l6] (v.toList ++ []) h') (fun E h' => some (.inr E, h'))) := zx_cv (x0 := 2) rfl rfl rfl rfl rfl ⟨Nat.le_of_ble_eq_true rfl, rfl⟩ (fun _ _ => rfl)
theorem zs_89_52 : zrun zP sv C 89 52 [l0, l1, l2, l3, l4, l5, l6] (.ref a :: st) h = zrun zP sv C 89 53 [l0, l1, l2, l3, l4, l5, l6] st h := zx_go rfl rfl
theorem zs_89_53 : zrun zP sv C 89 53 [l0, l1, l2, l3, l4, l5, l6] st h = zrun zP sv C 89 142 [l0, l1, l2, l3, l4, l5, l6] st h := zx_go rfl rfl
theorem zs_89_56 : zrun zP sv C 89 56 [l0, l1, l2, l3, l4, .val (.int x), l6] st h = zrun zP sv C 89 58 [l0, l1, l2, l3, l4, .val (.int x), l6] (.int x :: st) h := zx_go rfl rfl
theorem zs_89_58 : zrun zP sv C 89 58 [l0, l1, l2, l3, l4, l5, l6] st h = zrun zP sv C 89 60 [l0, l1, l2, l3, l4, l5, l6] (.int (nI 110) :: st) h := zx_go rfl rfl
theorem zs_89_60 : zrun zP sv C 89 60 [l0, l1, l2, l3, l4, l5, l6] (.int y :: .int x :: st) h = if x = y then zrun zP sv C 89 63 [l0, l1, l2, l3, l4, l5, l6] st h else zrun zP sv C 89 91 [l0, l1, l2, l3, l4, l5, l6] st h := (zx_ic rfl rfl).trans zc1_if
theorem zs_89_63 : zrun zP sv C 89 63 [l0, l1, l2, .val (.ref a), l4, l5, l6] st h = zrun zP sv C 89 64 [l0, l1, l2, .val (.ref a), l4, l5, l6] (.ref a :: st) h := zx_go rfl rfl
theorem zs_89_64 : zrun zP sv C 89 64 [l0, l1, l2, l3, l4, l5, l6] st h = zrun zP sv C 89 66 [l0, l1, l2, l3, l4, l5, l6] (.int (nI 45) :: st) h := zx_go rfl rfl
theorem zs_89_66 : zrun zP sv C 89 66 [l0, l1, l2, l3, l4, l5, l6] [v1, .ref b] h = zrc (h.1 b) 2 (zbk (C 15 [.ref b, v1] h) (fun v h' => zrun zP sv C 89 69 [l0, l1, l2, l3, l4, l5, l6] (v.toList ++ []) h') (fun E h' => some (.inr E, h'))) := zx_cv (x0 := 2) rfl rfl rfl rfl rfl ⟨Nat.le_of_ble_eq_true rfl, rfl⟩ (fun _ _ => rfl)
theorem zs_89_69 : zrun zP sv C 89 69 [l0, l1, l2, l3, l4, l5, l6] (.ref a :: st) h = zrun zP sv C 89 70 [l0, l1, l2, l3, l4, l5, l6] st h := zx_go rfl rfl
theorem zs_89_70 : zrun zP sv C 89 70 [.val (.ref a), l1, l2, l3, l4, l5, l6] st h = zrun zP sv C 89 71 [.val (.ref a), l1, l2, l3, l4, l5, l6] (.ref a :: st) h := zx_go rfl rfl
theorem zs_89_71 : zrun zP sv C 89 71 [.val (.ref a), l1, l2, l3, l4, l5, l6] st h = zrun zP sv C 89 72 [.val (.ref a), l1, l2, l3, l4, l5, l6] (.ref a :: st) h := zx_go rfl rfl
theorem zs_89_72 : zrun zP sv C 89 72 [l0, .val (.int x), l2, l3, l4, l5, l6] st h = zrun zP sv C 89 73 [l0, .val (.int x), l2, l3, l4, l5, l6] (.int x :: st) h := zx_go rfl rfl
theorem zs_89_73 : zrun zP sv C 89 73 [l0, l1, l2, l3, l4, l5, l6] [v1, .ref b, r0] h = zrc (h.1 b) 6 (zbk (C 186 [.ref b, v1] h) (fun v h' => zrun zP sv C 89 76 [l0, l1, l2, l3, l4, l5, l6] (v.toList ++ [r0]) h') (fun E h' => some (.inr E, h'))) := zx_cv (x0 := 6) rfl rfl rfl rfl rfl ⟨Nat.le_of_ble_eq_true rfl, rfl⟩ (fun _ _ => rfl)
theorem zs_89_76 : zrun zP sv C 89 76 [l0, l1, l2, l3, l4, l5, l6] st h = zrun zP sv C 89 77 [l0, l1, l2, l3, l4, l5, l6] (.int (nI 3) :: st) h := zx_go rfl rfl
theorem zs_89_77 : zrun zP sv C 89 77 [l0, l1, .val (.int x), l3, l4, l5, l6] st h = zrun zP sv C 89 78 [l0, l1, .val (.int x), l3, l4, l5, l6] (.int x :: st) h := zx_go rfl rfl
theorem zs_89_78 : zrun zP sv C 89 78 [l0, l1, l2, l3, l4, l5, l6] st h = zrun zP sv C 89 79 [l0, l1, l2, l3, l4, l5, l6] (.int (nI 1) :: st) h := zx_go rfl rfl
theorem zs_89_79 : zrun zP sv C 89 79 [l0, l1, l2, l3, l4, l5, l6] (.int y :: .int x :: st) h = zrun zP sv C 89 80 [l0, l1, l2, l3, l4, l5, l6] (.int (x + y) :: st) h := zx_go rfl rfl
theorem zs_89_80 : zrun zP sv C 89 80 [l0, l1, l2, .val (.ref a), l4, l5, l6] st h = zrun zP sv C 89 81 [l0, l1, l2, .val (.ref a), l4, l5, l6] (.ref a :: st) h := zx_go rfl rfl
theorem zs_89_81 : zrun zP sv C 89 81 [l0, l1, l2, l3, .val (.int x), l5, l6] st h = zrun zP sv C 89 83 [l0, l1, l2, l3, .val (.int x), l5, l6] (.int x :: st) h := zx_go rfl rfl
theorem zs_89_83 : zrun zP sv C 89 83 [l0, l1, l2, l3, l4, l5, l6] st h = zrun zP sv C 89 84 [l0, l1, l2, l3, l4, l5, l6] (.int (nI 1) :: st) h := zx_go rfl rfl
theorem zs_89_84 : zrun zP sv C 89 84 [l0, l1, l2, l3, l4, l5, l6] (.int y :: .int x :: st) h = zrun zP sv C 89 85 [l0, l1, l2, l3, l4, l5, l6] (.int (x + y) :: st) h := zx_go rfl rfl
theorem zs_89_85 : zrun zP sv C 89 85 [l0, l1, l2, l3, l4, l5, l6] [v5, v4, v3, v2, v1, v0] h = zbk (C 88 [v0, v1, v2, v3, v4, v5] h) (fun v h' => zrun zP sv C 89 88 [l0, l1, l2, l3, l4, l5, l6] (v.toList ++ []) h') (fun E h' => some (.inr E, h')) := zx_cs rfl rfl rfl rfl ⟨Nat.le_of_ble_eq_true rfl, rfl⟩ (fun _ _ => rfl)
theorem zs_89_88 : zrun zP sv C 89 88 [l0, l1, l2, l3, l4, l5, l6] st h = zrun zP sv C 89 142 [l0, l1, l2, l3, l4, l5, l6] st h := zx_go rfl rfl
theorem zs_89_91 : zrun zP sv C 89 91 [l0, l1, l2, l3, l4, .val (.int x), l6] st h = zrun zP sv C 89 93 [l0, l1, l2, l3, l4, .val (.int x), l6] (.int x :: st) h := zx_go rfl rfl
theorem zs_89_93 : zrun zP sv C 89 93 [l0, l1, l2, l3, l4, l5, l6] [v0] h = zbk (C 87 [v0] h) (fun v h' => zrun zP sv C 89 96 [l0, l1, l2, l3, l4, l5, l6] (v.toList ++ []) h') (fun E h' => some (.inr E, h')) := zx_cs rfl rfl rfl rfl ⟨Nat.le_of_ble_eq_true rfl, rfl⟩ (fun _ _ => rfl)
theorem zs_89_96 (hs : znw l6 = true) : zrun zP sv C 89 96 [l0, l1, l2, l3, l4, l5, l6] (.int x :: st) h = zrun zP sv C 89 98 [l0, l1, l2, l3, l4, l5, .val (.int x)] st h := zx_st hs rfl rfl rfl rfl rfl rfl
theorem zs_89_98 : zrun zP sv C 89 98 [.val (.ref a), l1, l2, l3, l4, l5, l6] st h = zrun zP sv C 89 99 [.val (.ref a), l1, l2, l3, l4, l5, l6] (.ref a :: st) h := zx_go rfl rfl
theorem zs_89_99 : zrun zP sv C 89 99 [.val (.ref a), l1, l2, l3, l4, l5, l6] st h = zrun zP sv C 89 100 [.val (.ref a), l1, l2, l3, l4, l5, l6] (.ref a :: st) h := zx_go rfl rfl
theorem zs_89_100 : zrun zP sv C 89 100 [l0, .val (.int x), l2, l3, l4, l5, l6] st h = zrun zP sv C 89 101 [l0, .val (.int x), l2, l3, l4, l5, l6] (.int x :: st) h := zx_go rfl rfl
theorem zs_89_101 : zrun zP sv C 89 101 [l0, l1, l2, l3, l4, l5, l6] [v1, .ref b, r0] h = zrc (h.1 b) 6 (zbk (C 186 [.ref b, v1] h) (fun v h' => zrun zP sv C 89 104 [l0, l1, l2, l3, l4, l5, l6] (v.toList ++ [r0]) h') (fun E h' => some (.inr E, h'))) := zx_cv (x0 := 6) rfl rfl rfl rfl rfl ⟨Nat.le_of_ble_eq_true rfl, rfl⟩ (fun _ _ => rfl)
theorem zs_89_104 : zrun zP sv C 89 104 [l0, l1, l2, l3, l4, l5, .val (.int x)] st h = zrun zP sv C 89 106 [l0, l1, l2, l3, l4, l5, .val (.int x)] (.int x :: st) h := zx_go rfl rfl
theorem zs_89_106 : zrun zP sv C 89 106 [l0, l1, l2, l3, l4, l5, l6] st h = zrun zP sv C 89 107 [l0, l1, l2, l3, l4, l5, l6] (.int 0 :: st) h := zx_go rfl rfl
theorem zs_89_107 : zrun zP sv C 89 107 [l0, l1, l2, .val (.ref a), l4, l5, l6] st h = zrun zP sv C 89 108 [l0, l1, l2, .val (.ref a), l4, l5, l6] (.ref a :: st) h := zx_go rfl rfl
theorem zs_89_108 : zrun zP sv C 89 108 [l0, l1, l2, l3, .val (.int x), l5, l6] st h = zrun zP sv C 89 110 [l0, l1, l2, l3, .val (.int x), l5, l6] (.int x :: st) h := zx_go rfl rfl
theorem zs_89_110 : zrun zP sv C 89 110 [l0, l1, l2, l3, l4, l5, l6] st h = zrun zP sv C 89 111 [l0, l1, l2, l3, l4, l5, l6] (.int (nI 1) :: st) h := zx_go rfl rfl
theorem zs_89_111 : zrun zP sv C 89 111 [l0, l1, l2, l3, l4, l5, l6] (.int y :: .int x :: st) h = zrun zP sv C 89 112 [l0, l1, l2, l3, l4, l5, l6] (.int (x + y) :: st) h := zx_go rfl rfl
theorem zs_89_112 : zrun zP sv C 89 112 [l0, l1, l2, l3, l4, l5, l6] [v5, v4, v3, v2, v1, v0] h = zbk (C 88 [v0, v1, v2, v3, v4, v5] h) (fun v h' => zrun zP sv C 89 115 [l0, l1, l2, l3, l4, l5, l6] (v.toList ++ []) h') (fun E h' => some (.inr E, h')) := zx_cs rfl rfl rfl rfl ⟨Nat.le_of_ble_eq_true rfl, rfl⟩ (fun _ _ => rfl)
theorem zs_89_115 : zrun zP sv C 89 115 [l0, l1, l2, .val (.ref a), l4, l5, l6] st h = zrun zP sv C 89 116 [l0, l1, l2, .val (.ref a), l4, l5, l6] (.ref a :: st) h := zx_go rfl rfl
theorem zs_89_116 : zrun zP sv C 89 116 [l0, l1, l2, l3, l4, .val (.int x), l6] st h = zrun zP sv C 89 118 [l0, l1, l2, l3, l4, .val (.int x), l6] (.int x :: st) h := zx_go rfl rfl
theorem zs_89_118 : zrun zP sv C 89 118 [l0, l1, l2, l3, l4, l5, l6] (.int x :: st) h = zrun zP sv C 89 119 [l0, l1, l2, l3, l4, l5, l6] (.int (x.toUInt32 % 65536).toInt32 :: st) h := zx_go rfl rfl
theorem zs_89_119 : zrun zP sv C 89 119 [l0, l1, l2, l3, l4, l5, l6] [v1, .ref b] h = zrc (h.1 b) 2 (zbk (C 15 [.ref b, v1] h) (fun v h' => zrun zP sv C 89 122 [l0, l1, l2, l3, l4, l5, l6] (v.toList ++ []) h') (fun E h' => some (.inr E, h'))) := zx_cv (x0 := 2) rfl rfl rfl rfl rfl ⟨Nat.le_of_ble_eq_true rfl, rfl⟩ (fun _ _ => rfl)
theorem zs_89_122 : zrun zP sv C 89 122 [l0, l1, l2, l3, l4, l5, l6] (.ref a :: st) h = zrun zP sv C 89 123 [l0, l1, l2, l3, l4, l5, l6] st h := zx_go rfl rfl
theorem zs_89_123 : zrun zP sv C 89 123 [.val (.ref a), l1, l2, l3, l4, l5, l6] st h = zrun zP sv C 89 124 [.val (.ref a), l1, l2, l3, l4, l5, l6] (.ref a :: st) h := zx_go rfl rfl
theorem zs_89_124 : zrun zP sv C 89 124 [.val (.ref a), l1, l2, l3, l4, l5, l6] st h = zrun zP sv C 89 125 [.val (.ref a), l1, l2, l3, l4, l5, l6] (.ref a :: st) h := zx_go rfl rfl
theorem zs_89_125 : zrun zP sv C 89 125 [l0, .val (.int x), l2, l3, l4, l5, l6] st h = zrun zP sv C 89 126 [l0, .val (.int x), l2, l3, l4, l5, l6] (.int x :: st) h := zx_go rfl rfl
theorem zs_89_126 : zrun zP sv C 89 126 [l0, l1, l2, l3, l4, l5, l6] [v1, .ref b, r0] h = zrc (h.1 b) 6 (zbk (C 187 [.ref b, v1] h) (fun v h' => zrun zP sv C 89 129 [l0, l1, l2, l3, l4, l5, l6] (v.toList ++ [r0]) h') (fun E h' => some (.inr E, h'))) := zx_cv (x0 := 6) rfl rfl rfl rfl rfl ⟨Nat.le_of_ble_eq_true rfl, rfl⟩ (fun _ _ => rfl)
theorem zs_89_129 : zrun zP sv C 89 129 [l0, l1, l2, l3, l4, l5, .val (.int x)] st h = zrun zP sv C 89 131 [l0, l1, l2, l3, l4, l5, .val (.int x)] (.int x :: st) h := zx_go rfl rfl
theorem zs_89_131 : zrun zP sv C 89 131 [l0, l1, l2, l3, l4, l5, l6] st h = zrun zP sv C 89 132 [l0, l1, l2, l3, l4, l5, l6] (.int (nI 1) :: st) h := zx_go rfl rfl
theorem zs_89_132 : zrun zP sv C 89 132 [l0, l1, l2, l3, l4, l5, l6] (.int y :: .int x :: st) h = zrun zP sv C 89 133 [l0, l1, l2, l3, l4, l5, l6] (.int (x + y) :: st) h := zx_go rfl rfl
theorem zs_89_133 : zrun zP sv C 89 133 [l0, l1, l2, l3, l4, l5, l6] st h = zrun zP sv C 89 134 [l0, l1, l2, l3, l4, l5, l6] (.int 0 :: st) h := zx_go rfl rfl
theorem zs_89_134 : zrun zP sv C 89 134 [l0, l1, l2, .val (.ref a), l4, l5, l6] st h = zrun zP sv C 89 135 [l0, l1, l2, .val (.ref a), l4, l5, l6] (.ref a :: st) h := zx_go rfl rfl
theorem zs_89_135 : zrun zP sv C 89 135 [l0, l1, l2, l3, .val (.int x), l5, l6] st h = zrun zP sv C 89 137 [l0, l1, l2, l3, .val (.int x), l5, l6] (.int x :: st) h := zx_go rfl rfl
theorem zs_89_137 : zrun zP sv C 89 137 [l0, l1, l2, l3, l4, l5, l6] st h = zrun zP sv C 89 138 [l0, l1, l2, l3, l4, l5, l6] (.int (nI 1) :: st) h := zx_go rfl rfl
theorem zs_89_138 : zrun zP sv C 89 138 [l0, l1, l2, l3, l4, l5, l6] (.int y :: .int x :: st) h = zrun zP sv C 89 139 [l0, l1, l2, l3, l4, l5, l6] (.int (x + y) :: st) h := zx_go rfl rfl
theorem zs_89_139 : zrun zP sv C 89 139 [l0, l1, l2, l3, l4, l5, l6] [v5, v4, v3, v2, v1, v0] h = zbk (C 88 [v0, v1, v2, v3, v4, v5] h) (fun v h' => zrun zP sv C 89 142 [l0, l1, l2, l3, l4, l5, l6] (v.toList ++ []) h') (fun E h' => some (.inr E, h')) := zx_cs rfl rfl rfl rfl ⟨Nat.le_of_ble_eq_true rfl, rfl⟩ (fun _ _ => rfl)
theorem zs_89_142 : zrun zP sv C 89 142 [l0, l1, l2, l3, l4, l5, l6] [] h = some (.inl none, h) := zx_end rfl rfl
theorem zs_90_0 : zrun zP sv C 90 0 [.val (.ref a)] st h = zrun zP sv C 90 1 [.val (.ref a)] (.ref a :: st) h := zx_go rfl rfl
theorem zs_90_1 : zrun zP sv C 90 1 [l0] [.ref a] h = zrun zP sv C 90 4 [l0] [] h := zx_go rfl rfl
theorem zs_90_4 : zrun zP sv C 90 4 [.val (.ref a)] st h = zrun zP sv C 90 5 [.val (.ref a)] (.ref a :: st) h := zx_go rfl rfl
theorem zs_90_5 : zrun zP sv C 90 5 [l0] st h = zrun zP sv C 90 8 [l0] (.ref h.2.1 :: st) (znew h (4, [.null]) 1) := zx_go rfl rfl
theorem zs_90_8 : zrun zP sv C 90 8 [l0] (.ref a :: st) h = zrun zP sv C 90 9 [l0] (.ref a :: .ref a :: st) h := zx_go rfl rfl
theorem zs_90_9 : zrun zP sv C 90 9 [l0] st h = zrun zP sv C 90 11 [l0] (.int (nI 124) :: st) h := zx_go rfl rfl
theorem zs_90_11 : zrun zP sv C 90 11 [l0] [v1, .ref b, r0, r1] h = zrc (h.1 b) 4 (zbk (C 164 [.ref b, v1] h) (fun v h' => zrun zP sv C 90 14 [l0] (v.toList ++ [r0, r1]) h') (fun E h' => some (.inr E, h'))) := zx_cv (x0 := 4) rfl rfl rfl rfl rfl ⟨Nat.le_of_ble_eq_true rfl, rfl⟩ (fun _ _ => rfl)
theorem zs_90_14 : zrun zP sv C 90 14 [l0] (.ref b :: .ref a :: st) h = zpfd (h.1 a) 9 0 4 (.ref b) (fun c => zrun zP sv C 90 17 [l0] st (zup h a c)) := zx_putf (x0 := 4) rfl rfl
theorem zs_90_17 : zrun zP sv C 90 17 [l0] [] h = some (.inl none, h) := zx_end rfl rfl
theorem zs_91_0 : zrun zP sv C 91 0 [l0, .val (.int x)] st h = zrun zP sv C 91 1 [l0, .val (.int x)] (.int x :: st) h := zx_go rfl rfl
theorem zs_91_1 : zrun zP sv C 91 1 [l0, l1] st h = zrun zP sv C 91 2 [l0, l1] (.int (-1) :: st) h := zx_go rfl rfl
theorem zs_91_2 : zrun zP sv C 91 2 [l0, l1] (.int y :: .int x :: st) h = if x = y then zrun zP sv C 91 5 [l0, l1] st h else zrun zP sv C 91 9 [l0, l1] st h := (zx_ic rfl rfl).trans zc1_if
theorem zs_91_5 : zrun zP sv C 91 5 [l0, l1] st h = zrun zP sv C 91 6 [l0, l1] (.int (-1) :: st) h := zx_go rfl rfl
theorem zs_91_6 : zrun zP sv C 91 6 [l0, l1] st h = zrun zP sv C 91 17 [l0, l1] st h := zx_go rfl rfl
theorem zs_91_9 : zrun zP sv C 91 9 [.val (.ref a), l1] st h = zrun zP sv C 91 10 [.val (.ref a), l1] (.ref a :: st) h := zx_go rfl rfl
theorem zs_91_10 : zrun zP sv C 91 10 [l0, l1] (.ref a :: st) h = zfld (h.1 a) 9 0 (fun v => zrun zP sv C 91 13 [l0, l1] (v :: st) h) := zx_getf rfl rfl
theorem zs_91_13 : zrun zP sv C 91 13 [l0, .val (.int x)] st h = zrun zP sv C 91 14 [l0, .val (.int x)] (.int x :: st) h := zx_go rfl rfl
theorem zs_91_14 : zrun zP sv C 91 14 [l0, l1] [v1, .ref b] h = zrc (h.1 b) 4 (zbk (C 165 [.ref b, v1] h) (fun v h' => zrun zP sv C 91 17 [l0, l1] (v.toList ++ []) h') (fun E h' => some (.inr E, h'))) := zx_cv (x0 := 4) rfl rfl rfl rfl rfl ⟨Nat.le_of_ble_eq_true rfl, rfl⟩ (fun _ _ => rfl)
theorem zs_91_17 : zrun zP sv C 91 17 [l0, l1] [.int x] h = some (.inl (some (.int x)), h) := zx_end rfl rfl
theorem zs_92_0 : zrun zP sv C 92 0 [l0, l1, l2, l3, .val (.ref a), l5, l6] st h = zrun zP sv C 92 2 [l0, l1, l2, l3, .val (.ref a), l5, l6] (.ref a :: st) h := zx_go rfl rfl
theorem zs_92_2 : zrun zP sv C 92 2 [l0, l1, l2, .val (.ref a), l4, l5, l6] st h = zrun zP sv C 92 3 [l0, l1, l2, .val (.ref a), l4, l5, l6] (.ref a :: st) h := zx_go rfl rfl
theorem zs_92_3 : zrun zP sv C 92 3 [l0, l1, l2, l3, l4, l5, l6] [v1, .ref b] h = zrc (h.1 b) 6 (zbk (C 195 [.ref b, v1] h) (fun v h' => zrun zP sv C 92 6 [l0, l1, l2, l3, l4, l5, l6] (v.toList ++ []) h') (fun E h' => some (.inr E, h'))) := zx_cv (x0 := 6) rfl rfl rfl rfl rfl ⟨Nat.le_of_ble_eq_true rfl, rfl⟩ (fun _ _ => rfl)
theorem zs_92_6 : zrun zP sv C 92 6 [l0, l1, l2, l3, .val (.ref a), l5, l6] st h = zrun zP sv C 92 8 [l0, l1, l2, l3, .val (.ref a), l5, l6] (.ref a :: st) h := zx_go rfl rfl
theorem zs_92_8 : zrun zP sv C 92 8 [l0, l1, l2, l3, l4, l5, l6] [.ref b] h = zrc (h.1 b) 6 (zbk (C 183 [.ref b] h) (fun v h' => zrun zP sv C 92 11 [l0, l1, l2, l3, l4, l5, l6] (v.toList ++ []) h') (fun E h' => some (.inr E, h'))) := zx_cv (x0 := 6) rfl rfl rfl rfl rfl ⟨Nat.le_of_ble_eq_true rfl, rfl⟩ (fun _ _ => rfl)
theorem zs_92_11 (hs : znw l5 = true) : zrun zP sv C 92 11 [l0, l1, l2, l3, l4, l5, l6] (.int x :: st) h = zrun zP sv C 92 13 [l0, l1, l2, l3, l4, .val (.int x), l6] st h := zx_st hs rfl rfl rfl rfl rfl rfl
theorem zs_92_13 : zrun zP sv C 92 13 [l0, l1, l2, l3, l4, l5, l6] st h = zrun zP sv C 92 14 [l0, l1, l2, l3, l4, l5, l6] (.int 0 :: st) h := zx_go rfl rfl
theorem zs_92_14 (hs : znw l6 = true) : zrun zP sv C 92 14 [l0, l1, l2, l3, l4, l5, l6] (.int x :: st) h = zrun zP sv C 92 16 [l0, l1, l2, l3, l4, l5, .val (.int x)] st h := zx_st hs rfl rfl rfl rfl rfl rfl
theorem zs_92_16 : zrun zP sv C 92 16 [l0, l1, l2, l3, l4, l5, .val (.int x)] st h = zrun zP sv C 92 18 [l0, l1, l2, l3, l4, l5, .val (.int x)] (.int x :: st) h := zx_go rfl rfl
theorem zs_92_18 : zrun zP sv C 92 18 [l0, .val (.ref a), l2, l3, l4, l5, l6] st h = zrun zP sv C 92 19 [l0, .val (.ref a), l2, l3, l4, l5, l6] (.ref a :: st) h := zx_go rfl rfl
theorem zs_92_19 : zrun zP sv C 92 19 [l0, l1, l2, l3, l4, l5, l6] [.ref b, r0] h = zrc (h.1 b) 6 (zbk (C 182 [.ref b] h) (fun v h' => zrun zP sv C 92 22 [l0, l1, l2, l3, l4, l5, l6] (v.toList ++ [r0]) h') (fun E h' => some (.inr E, h'))) := zx_cv (x0 := 6) rfl rfl rfl rfl rfl ⟨Nat.le_of_ble_eq_true rfl, rfl⟩ (fun _ _ => rfl)
theorem zs_92_22 : zrun zP sv C 92 22 [l0, l1, l2, l3, l4, l5, l6] (.int y :: .int x :: st) h = if x < y then zrun zP sv C 92 25 [l0, l1, l2, l3, l4, l5, l6] st h else zrun zP sv C 92 101 [l0, l1, l2, l3, l4, l5, l6] st h := (zx_ic rfl rfl).trans zc3_if
theorem zs_92_25 : zrun zP sv C 92 25 [l0, .val (.ref a), l2, l3, l4, l5, l6] st h = zrun zP sv C 92 26 [l0, .val (.ref a), l2, l3, l4, l5, l6] (.ref a :: st) h := zx_go rfl rfl
theorem zs_92_26 : zrun zP sv C 92 26 [l0, l1, l2, l3, l4, l5, .val (.int x)] st h = zrun zP sv C 92 28 [l0, l1, l2, l3, l4, l5, .val (.int x)] (.int x :: st) h := zx_go rfl rfl
theorem zs_92_28 : zrun zP sv C 92 28 [l0, l1, .val (.int x), l3, l4, l5, l6] st h = zrun zP sv C 92 29 [l0, l1, .val (.int x), l3, l4, l5, l6] (.int x :: st) h := zx_go rfl rfl
theorem zs_92_29 : zrun zP sv C 92 29 [l0, l1, l2, l3, l4, l5, l6] [v2, v1, .ref b] h = zrc (h.1 b) 6 (zbk (C 188 [.ref b, v1, v2] h) (fun v h' => zrun zP sv C 92 32 [l0, l1, l2, l3, l4, l5, l6] (v.toList ++ []) h') (fun E h' => some (.inr E, h'))) := zx_cv (x0 := 6) rfl rfl rfl rfl rfl ⟨Nat.le_of_ble_eq_true rfl, rfl⟩ (fun _ _ => rfl)
theorem zs_92_32 : zrun zP sv C 92 32 [l0, l1, l2, l3, l4, l5, l6] (.int x :: st) h = if x = 0 then zrun zP sv C 92 49 [l0, l1, l2, l3, l4, l5, l6] st h else zrun zP sv C 92 35 [l0, l1, l2, l3, l4, l5, l6] st h := (zx_if rfl rfl).trans zc0_if
theorem zs_92_35 : zrun zP sv C 92 35 [.val (.ref a), l1, l2, l3, l4, l5, l6] st h = zrun zP sv C 92 36 [.val (.ref a), l1, l2, l3, l4, l5, l6] (.ref a :: st) h := zx_go rfl rfl
theorem zs_92_36 : zrun zP sv C 92 36 [l0, l1, l2, l3, l4, l5, l6] (.ref a :: st) h = zfld (h.1 a) 9 0 (fun v => zrun zP sv C 92 39 [l0, l1, l2, l3, l4, l5, l6] (v :: st) h) := zx_getf rfl rfl
theorem zs_92_39 : zrun zP sv C 92 39 [l0, l1, l2, l3, l4, l5, .val (.int x)] st h = zrun zP sv C 92 41 [l0, l1, l2, l3, l4, l5, .val (.int x)] (.int x :: st) h := zx_go rfl rfl
theorem zs_92_41 : zrun zP sv C 92 41 [l0, l1, l2, l3, l4, .val (.int x), l6] st h = zrun zP sv C 92 43 [l0, l1, l2, l3, l4, .val (.int x), l6] (.int x :: st) h := zx_go rfl rfl
theorem zs_92_43 : zrun zP sv C 92 43 [l0, l1, l2, l3, l4, l5, l6] [v2, v1, .ref b] h = zrc (h.1 b) 4 (zbk (C 166 [.ref b, v1, v2] h) (fun v h' => zrun zP sv C 92 46 [l0, l1, l2, l3, l4, l5, l6] (v.toList ++ []) h') (fun E h' => some (.inr E, h'))) := zx_cv (x0 := 4) rfl rfl rfl rfl rfl ⟨Nat.le_of_ble_eq_true rfl, rfl⟩ (fun _ _ => rfl)
theorem zs_92_46 : zrun zP sv C 92 46 [l0, l1, l2, l3, l4, l5, l6] st h = zrun zP sv C 92 95 [l0, l1, l2, l3, l4, l5, l6] st h := zx_go rfl rfl
theorem zs_92_49 : zrun zP sv C 92 49 [.val (.ref a), l1, l2, l3, l4, l5, l6] st h = zrun zP sv C 92 50 [.val (.ref a), l1, l2, l3, l4, l5, l6] (.ref a :: st) h := zx_go rfl rfl
theorem zs_92_50 : zrun zP sv C 92 50 [l0, l1, l2, l3, l4, l5, l6] (.ref a :: st) h = zfld (h.1 a) 9 0 (fun v => zrun zP sv C 92 53 [l0, l1, l2, l3, l4, l5, l6] (v :: st) h) := zx_getf rfl rfl
theorem zs_92_53 : zrun zP sv C 92 53 [l0, l1, l2, l3, l4, l5, .val (.int x)] st h = zrun zP sv C 92 55 [l0, l1, l2, l3, l4, l5, .val (.int x)] (.int x :: st) h := zx_go rfl rfl
theorem zs_92_55 : zrun zP sv C 92 55 [l0, l1, l2, l3, .val (.ref a), l5, l6] st h = zrun zP sv C 92 57 [l0, l1, l2, l3, .val (.ref a), l5, l6] (.ref a :: st) h := zx_go rfl rfl
theorem zs_92_57 : zrun zP sv C 92 57 [l0, .val (.ref a), l2, l3, l4, l5, l6] st h = zrun zP sv C 92 58 [l0, .val (.ref a), l2, l3, l4, l5, l6] (.ref a :: st) h := zx_go rfl rfl
theorem zs_92_58 : zrun zP sv C 92 58 [l0, l1, l2, l3, l4, l5, .val (.int x)] st h = zrun zP sv C 92 60 [l0, l1, l2, l3, l4, l5, .val (.int x)] (.int x :: st) h := zx_go rfl rfl
theorem zs_92_60 : zrun zP sv C 92 60 [l0, l1, l2, l3, l4, l5, l6] [v1, .ref b, r0, r1, r2] h = zrc (h.1 b) 6 (zbk (C 184 [.ref b, v1] h) (fun v h' => zrun zP sv C 92 63 [l0, l1, l2, l3, l4, l5, l6] (v.toList ++ [r0, r1, r2]) h') (fun E h' => some (.inr E, h'))) := zx_cv (x0 := 6) rfl rfl rfl rfl rfl ⟨Nat.le_of_ble_eq_true rfl, rfl⟩ (fun _ _ => rfl)
theorem zs_92_63 : zrun zP sv C 92 63 [l0, .val (.ref a), l2, l3, l4, l5, l6] st h = zrun zP sv C 92 64 [l0, .val (.ref a), l2, l3, l4, l5, l6] (.ref a :: st) h := zx_go rfl rfl
theorem zs_92_64 : zrun zP sv C 92 64 [l0, l1, l2, l3, l4, l5, .val (.int x)] st h = zrun zP sv C 92 66 [l0, l1, l2, l3, l4, l5, .val (.int x)] (.int x :: st) h := zx_go rfl rfl
theorem zs_92_66 : zrun zP sv C 92 66 [l0, l1, l2, l3, l4, l5, l6] [v1, .ref b, r0, r1, r2, r3] h = zrc (h.1 b) 6 (zbk (C 185 [.ref b, v1] h) (fun v h' => zrun zP sv C 92 69 [l0, l1, l2, l3, l4, l5, l6] (v.toList ++ [r0, r1, r2, r3]) h') (fun E h' => some (.inr E, h'))) := zx_cv (x0 := 6) rfl rfl rfl rfl rfl ⟨Nat.le_of_ble_eq_true rfl, rfl⟩ (fun _ _ => rfl)
theorem zs_92_69 : zrun zP sv C 92 69 [.val (.ref a), l1, l2, l3, l4, l5, l6] st h = zrun zP sv C 92 70 [.val (.ref a), l1, l2, l3, l4, l5, l6] (.ref a :: st) h := zx_go rfl rfl
theorem zs_92_70 : zrun zP sv C 92 70 [l0, .val (.ref a), l2, l3, l4, l5, l6] st h = zrun zP sv C 92 71 [l0, .val (.ref a), l2, l3, l4, l5, l6] (.ref a :: st) h := zx_go rfl rfl
theorem zs_92_71 : zrun zP sv C 92 71 [l0, l1, l2, l3, l4, l5, .val (.int x)] st h = zrun zP sv C 92 73 [l0, l1, l2, l3, l4, l5, .val (.int x)] (.int x :: st) h := zx_go rfl rfl
theorem zs_92_73 : zrun zP sv C 92 73 [l0, l1, l2, l3, l4, l5, l6] [v1, .ref b, .ref q0, .int w1, .int w2, .ref q3, .int w4, .ref q5] h = zrc (h.1 b) 6 (zbk (C 186 [.ref b, v1] h) (fun v h' => zrun zP sv C 92 76 [l0, l1, l2, l3, l4, l5, l6] (v.toList ++ [.ref q0, .int w1, .int w2, .ref q3, .int w4, .ref q5]) h') (fun E h' => some (.inr E, h'))) := zx_cv (x0 := 6) rfl rfl rfl rfl rfl ⟨Nat.le_of_ble_eq_true rfl, rfl⟩ (fun _ _ => rfl)
theorem zs_92_76 : zrun zP sv C 92 76 [l0, l1, l2, l3, l4, l5, l6] [v1, .ref b, .int w0, .int w1, .ref q2, .int w3, .ref q4] h = zrc (h.1 b) 9 (zbk (C 91 [.ref b, v1] h) (fun v h' => zrun zP sv C 92 79 [l0, l1, l2, l3, l4, l5, l6] (v.toList ++ [.int w0, .int w1, .ref q2, .int w3, .ref q4]) h') (fun E h' => some (.inr E, h'))) := zx_cv (x0 := 9) rfl rfl rfl rfl rfl ⟨Nat.le_of_ble_eq_true rfl, rfl⟩ (fun _ _ => rfl)
theorem zs_92_79 : zrun zP sv C 92 79 [.val (.ref a), l1, l2, l3, l4, l5, l6] st h = zrun zP sv C 92 80 [.val (.ref a), l1, l2, l3, l4, l5, l6] (.ref a :: st) h := zx_go rfl rfl
theorem zs_92_80 : zrun zP sv C 92 80 [l0, .val (.ref a), l2, l3, l4, l5, l6] st h = zrun zP sv C 92 81 [l0, .val (.ref a), l2, l3, l4, l5, l6] (.ref a :: st) h := zx_go rfl rfl
theorem zs_92_81 : zrun zP sv C 92 81 [l0, l1, l2, l3, l4, l5, .val (.int x)] st h = zrun zP sv C 92 83 [l0, l1, l2, l3, l4, l5, .val (.int x)] (.int x :: st) h := zx_go rfl rfl
theorem zs_92_83 : zrun zP sv C 92 83 [l0, l1, l2, l3, l4, l5, l6] [v1, .ref b, .ref q0, .int w1, .int w2, .int w3, .ref q4, .int w5, .ref q6] h = zrc (h.1 b) 6 (zbk (C 187 [.ref b, v1] h) (fun v h' => zrun zP sv C 92 86 [l0, l1, l2, l3, l4, l5, l6] (v.toList ++ [.ref q0, .int w1, .int w2, .int w3, .ref q4, .int w5, .ref q6]) h') (fun E h' => some (.inr E, h'))) := zx_cv (x0 := 6) rfl rfl rfl rfl rfl ⟨Nat.le_of_ble_eq_true rfl, rfl⟩ (fun _ _ => rfl)
theorem zs_92_86 : zrun zP sv C 92 86 [l0, l1, l2, l3, l4, l5, l6] [v1, .ref b, .int w0, .int w1, .int w2, .ref q3, .int w4, .ref q5] h = zrc (h.1 b) 9 (zbk (C 91 [.ref b, v1] h) (fun v h' => zrun zP sv C 92 89 [l0, l1, l2, l3, l4, l5, l6] (v.toList ++ [.int w0, .int w1, .int w2, .ref q3, .int w4, .ref q5]) h') (fun E h' => some (.inr E, h'))) := zx_cv (x0 := 9) rfl rfl rfl rfl rfl ⟨Nat.le_of_ble_eq_true rfl, rfl⟩ (fun _ _ => rfl)
theorem zs_92_89 : zrun zP sv C 92 89 [l0, l1, l2, l3, l4, l5, l6] [v4, v3, v2, v1, .ref b, r0, r1] h = zrc (h.1 b) 6 (zbk (C 191 [.ref b, v1, v2, v3, v4] h) (fun v h' => zrun zP sv C 92 92 [l0, l1, l2, l3, l4, l5, l6] (v.toList ++ [r0, r1]) h') (fun E h' => some (.inr E, h'))) := zx_cv (x0 := 6) rfl rfl rfl rfl rfl ⟨Nat.le_of_ble_eq_true rfl, rfl⟩ (fun _ _ => rfl)
theorem zs_92_92 : zrun zP sv C 92 92 [l0, l1, l2, l3, l4, l5, l6] [v2, v1, .ref b] h = zrc (h.1 b) 4 (zbk (C 166 [.ref b, v1, v2] h) (fun v h' => zrun zP sv C 92 95 [l0, l1, l2, l3, l4, l5, l6] (v.toList ++ []) h') (fun E h' => some (.inr E, h'))) := zx_cv (x0 := 4) rfl rfl rfl rfl rfl ⟨Nat.le_of_ble_eq_true rfl, rfl⟩ (fun _ _ => rfl)
theorem zs_92_95 : zrun zP sv C 92 95 [l0, l1, l2, l3, l4, l5, .val (.int x)] st h = zrun zP sv C 92 98 [l0, l1, l2, l3, l4, l5, .val (.int (x + (nI 1)))] st h := zx_ii rfl rfl rfl rfl rfl
theorem zs_92_98 : zrun zP sv C 92 98 [l0, l1, l2, l3, l4, l5, l6] st h = zrun zP sv C 92 16 [l0, l1, l2, l3, l4, l5, l6] st h := zx_go rfl rfl
theorem zs_92_101 : zrun zP sv C 92 101 [.val (.ref a), l1, l2, l3, l4, l5, l6] st h = zrun zP sv C 92 102 [.val (.ref a), l1, l2, l3, l4, l5, l6] (.ref a :: st) h := zx_go rfl rfl
theorem zs_92_102 : zrun zP sv C 92 102 [l0, .val (.ref a), l2, l3, l4, l5, l6] st h = zrun zP sv C 92 103 [l0, .val (.ref a), l2, l3, l4, l5, l6] (.ref a :: st) h := zx_go rfl rfl
theorem zs_92_103 : zrun zP sv C 92 103 [l0, l1, l2, l3, l4, l5, l6] [.ref b, r0] h = zrc (h.1 b) 6 (zbk (C 183 [.ref b] h) (fun v h' => zrun zP sv C 92 106 [l0, l1, l2, l3, l4, l5, l6] (v.toList ++ [r0]) h') (fun E h' => some (.inr E, h'))) := zx_cv (x0 := 6) rfl rfl rfl rfl rfl ⟨Nat.le_of_ble_eq_true rfl, rfl⟩ (fun _ _ => rfl)
theorem zs_92_106 : zrun zP sv C 92 106 [l0, l1, l2, l3, l4, l5, l6] [v1, .ref b] h = zrc (h.1 b) 9 (zbk (C 91 [.ref b, v1] h) (fun v h' => zrun zP sv C 92 109 [l0, l1, l2, l3, l4, l5, l6] (v.toList ++ []) h') (fun E h' => some (.inr E, h'))) := zx_cv (x0 := 9) rfl rfl rfl rfl rfl ⟨Nat.le_of_ble_eq_true rfl, rfl⟩ (fun _ _ => rfl)
theorem zs_92_109 : zrun zP sv C 92 109 [l0, l1, l2, l3, l4, l5, l6] [.int x] h = some (.inl (some (.int x)), h) := zx_end rfl rfl
theorem zs_93_0 : zrun zP sv C 93 0 [l0, l1, l2, .val (.ref a), l4] st h = zrun zP sv C 93 1 [l0, l1, l2, .val (.ref a), l4] (.ref a :: st) h := zx_go rfl rfl
theorem zs_93_1 : zrun zP sv C 93 1 [l0, .val (.ref a), l2, l3, l4] st h = zrun zP sv C 93 2 [l0, .val (.ref a), l2, l3, l4] (.ref a :: st) h := zx_go rfl rfl
theorem zs_93_2 : zrun zP sv C 93 2 [l0, l1, l2, l3, l4] [v1, .ref b] h = zrc (h.1 b) 6 (zbk (C 195 [.ref b, v1] h) (fun v h' => zrun zP sv C 93 5 [l0, l1, l2, l3, l4] (v.toList ++ []) h') (fun E h' => some (.inr E, h'))) := zx_cv (x0 := 6) rfl rfl rfl rfl rfl ⟨Nat.le_of_ble_eq_true rfl, rfl⟩ (fun _ _ => rfl)
theorem zs_93_5 : zrun zP sv C 93 5 [l0, l1, l2, l3, l4] st h = zrun zP sv C 93 6 [l0, l1, l2, l3, l4] (.int 0 :: st) h := zx_go rfl rfl
theorem zs_93_6 (hs : znw l4 = true) : zrun zP sv C 93 6 [l0, l1, l2, l3, l4] (.int x :: st) h = zrun zP sv C 93 8 [l0, l1, l2, l3, .val (.int x)] st h := zx_st hs rfl rfl rfl rfl rfl rfl
theorem zs_93_8 : zrun zP sv C 93 8 [l0, l1, l2, l3, .val (.int x)] st h = zrun zP sv C 93 10 [l0, l1, l2, l3, .val (.int x)] (.int x :: st) h := zx_go rfl rfl
theorem zs_93_10 : zrun zP sv C 93 10 [l0, .val (.ref a), l2, l3, l4] st h = zrun zP sv C 93 11 [l0, .val (.ref a), l2, l3, l4] (.ref a :: st) h := zx_go rfl rfl
theorem zs_93_11 : zrun zP sv C 93 11 [l0, l1, l2, l3, l4] [.ref b, r0] h = zrc (h.1 b) 6 (zbk (C 182 [.ref b] h) (fun v h' => zrun zP sv C 93 14 [l0, l1, l2, l3, l4] (v.toList ++ [r0]) h') (fun E h' => some (.inr E, h'))) := zx_cv (x0 := 6) rfl rfl rfl rfl rfl ⟨Nat.le_of_ble_eq_true rfl, rfl⟩ (fun _ _ => rfl)
theorem zs_93_14 : zrun zP sv C 93 14 [l0, l1, l2, l3, l4] (.int y :: .int x :: st) h = if x < y then zrun zP sv C 93 17 [l0, l1, l2, l3, l4] st h else zrun zP sv C 93 41 [l0, l1, l2, l3, l4] st h := (zx_ic rfl rfl).trans zc3_if
theorem zs_93_17 : zrun zP sv C 93 17 [.val (.ref a), l1, l2, l3, l4] st h = zrun zP sv C 93 18 [.val (.ref a), l1, l2, l3, l4] (.ref a :: st) h := zx_go rfl rfl
theorem zs_93_18 : zrun zP sv C 93 18 [l0, l1, l2, l3, l4] (.ref a :: st) h = zfld (h.1 a) 9 0 (fun v => zrun zP sv C 93 21 [l0, l1, l2, l3, l4] (v :: st) h) := zx_getf rfl rfl
theorem zs_93_21 : zrun zP sv C 93 21 [l0, l1, l2, l3, .val (.int x)] st h = zrun zP sv C 93 23 [l0, l1, l2, l3, .val (.int x)] (.int x :: st) h := zx_go rfl rfl
theorem zs_93_23 : zrun zP sv C 93 23 [.val (.ref a), l1, l2, l3, l4] st h = zrun zP sv C 93 24 [.val (.ref a), l1, l2, l3, l4] (.ref a :: st) h := zx_go rfl rfl
theorem zs_93_24 : zrun zP sv C 93 24 [l0, .val (.ref a), l2, l3, l4] st h = zrun zP sv C 93 25 [l0, .val (.ref a), l2, l3, l4] (.ref a :: st) h := zx_go rfl rfl
theorem zs_93_25 : zrun zP sv C 93 25 [l0, l1, l2, l3, .val (.int x)] st h = zrun zP sv C 93 27 [l0, l1, l2, l3, .val (.int x)] (.int x :: st) h := zx_go rfl rfl
theorem zs_93_27 : zrun zP sv C 93 27 [l0, l1, .val (.int x), l3, l4] st h = zrun zP sv C 93 28 [l0, l1, .val (.int x), l3, l4] (.int x :: st) h := zx_go rfl rfl
theorem zs_93_28 : zrun zP sv C 93 28 [l0, l1, l2, .val (.ref a), l4] st h = zrun zP sv C 93 29 [l0, l1, l2, .val (.ref a), l4] (.ref a :: st) h := zx_go rfl rfl
theorem zs_93_29 : zrun zP sv C 93 29 [l0, l1, l2, l3, l4] [v4, v3, v2, v1, .ref b, r0, r1] h = zrc (h.1 b) 9 (zbk (C 94 [.ref b, v1, v2, v3, v4] h) (fun v h' => zrun zP sv C 93 32 [l0, l1, l2, l3, l4] (v.toList ++ [r0, r1]) h') (fun E h' => some (.inr E, h'))) := zx_cv (x0 := 9) rfl rfl rfl rfl rfl ⟨Nat.le_of_ble_eq_true rfl, rfl⟩ (fun _ _ => rfl)
theorem zs_93_32 : zrun zP sv C 93 32 [l0, l1, l2, l3, l4] [v2, v1, .ref b] h = zrc (h.1 b) 4 (zbk (C 166 [.ref b, v1, v2] h) (fun v h' => zrun zP sv C 93 35 [l0, l1, l2, l3, l4] (v.toList ++ []) h') (fun E h' => some (.inr E, h'))) := zx_cv (x0 := 4) rfl rfl rfl rfl rfl ⟨Nat.le_of_ble_eq_true rfl, rfl⟩ (fun _ _ => rfl)
theorem zs_93_35 : zrun zP sv C 93 35 [l0, l1, l2, l3, .val (.int x)] st h = zrun zP sv C 93 38 [l0, l1, l2, l3, .val (.int (x + (nI 1)))] st h := zx_ii rfl rfl rfl rfl rfl
theorem zs_93_38 : zrun zP sv C 93 38 [l0, l1, l2, l3, l4] st h = zrun zP sv C 93 8 [l0, l1, l2, l3, l4] st h := zx_go rfl rfl
theorem zs_93_41 : zrun zP sv C 93 41 [.val (.ref a), l1, l2, l3, l4] st h = zrun zP sv C 93 42 [.val (.ref a), l1, l2, l3, l4] (.ref a :: st) h := zx_go rfl rfl
theorem zs_93_42 : zrun zP sv C 93 42 [l0, .val (.ref a), l2, l3, l4] st h = zrun zP sv C 93 43 [l0, .val (.ref a), l2, l3, l4] (.ref a :: st) h := zx_go rfl rfl
theorem zs_93_43 : zrun zP sv C 93 43 [l0, l1, l2, l3, l4] [.ref b, r0] h = zrc (h.1 b) 6 (zbk (C 183 [.ref b] h) (fun v h' => zrun zP sv C 93 46 [l0, l1, l2, l3, l4] (v.toList ++ [r0]) h') (fun E h' => some (.inr E, h'))) := zx_cv (x0 := 6) rfl rfl rfl rfl rfl ⟨Nat.le_of_ble_eq_true rfl, rfl⟩ (fun _ _ => rfl)
theorem zs_93_46 : zrun zP sv C 93 46 [l0, l1, l2, l3, l4] [v1, .ref b] h = zrc (h.1 b) 9 (zbk (C 91 [.ref b, v1] h) (fun v h' => zrun zP sv C 93 49 [l0, l1, l2, l3, l4] (v.toList ++ []) h') (fun E h' => some (.inr E, h'))) := zx_cv (x0 := 9) rfl rfl rfl rfl rfl ⟨Nat.le_of_ble_eq_true rfl, rfl⟩ (fun _ _ => rfl)
theorem zs_93_49 : zrun zP sv C 93 49 [l0, l1, l2, l3, l4] [.int x] h = some (.inl (some (.int x)), h) := zx_end rfl rfl
theorem zs_94_0 : zrun zP sv C 94 0 [l0, .val (.ref a), l2, l3, l4, l5, l6, l7, l8, l9] st h = zrun zP sv C 94 1 [l0, .val (.ref a), l2, l3, l4, l5, l6, l7, l8, l9] (.ref a :: st) h := zx_go rfl rfl
theorem zs_94_1 : zrun zP sv C 94 1 [l0, l1, .val (.int x), l3, l4, l5, l6, l7, l8, l9] st h = zrun zP sv C 94 2 [l0, l1, .val (.int x), l3, l4, l5, l6, l7, l8, l9] (.int x :: st) h := zx_go rfl rfl
theorem zs_94_2 : zrun zP sv C 94 2 [l0, l1, l2, l3, l4, l5, l6, l7, l8, l9] [v1, .ref b] h = zrc (h.1 b) 6 (zbk (C 184 [.ref b, v1] h) (fun v h' => zrun zP sv C 94 5 [l0, l1, l2, l3, l4, l5, l6, l7, l8, l9] (v.toList ++ []) h') (fun E h' => some (.inr E, h'))) := zx_cv (x0 := 6) rfl rfl rfl rfl rfl ⟨Nat.le_of_ble_eq_true rfl, rfl⟩ (fun _ _ => rfl)
theorem zs_94_5 (hs : znw l5 = true) : zrun zP sv C 94 5 [l0, l1, l2, l3, l4, l5, l6, l7, l8, l9] (.int x :: st) h = zrun zP sv C 94 7 [l0, l1, l2, l3, l4, .val (.int x), l6, l7, l8, l9] st h := zx_st hs rfl rfl rfl rfl rfl rfl
theorem zs_94_7 : zrun zP sv C 94 7 [l0, .val (.ref a), l2, l3, l4, l5, l6, l7, l8, l9] st h = zrun zP sv C 94 8 [l0, .val (.ref a), l2, l3, l4, l5, l6, l7, l8, l9] (.ref a :: st) h := zx_go rfl rfl
theorem zs_94_8 : zrun zP sv C 94 8 [l0, l1, .val (.int x), l3, l4, l5, l6, l7, l8, l9] st h = zrun zP sv C 94 9 [l0, l1, .val (.int x), l3, l4, l5, l6, l7, l8, l9] (.int x :: st) h := zx_go rfl rfl
theorem zs_94_9 : zrun zP sv C 94 9 [l0, l1, l2, l3, l4, l5, l6, l7, l8, l9] [v1, .ref b] h = zrc (h.1 b) 6 (zbk (C 186 [.ref b, v1] h) (fun v h' => zrun zP sv C 94 12 [l0, l1, l2, l3, l4, l5, l6, l7, l8, l9] (v.toList ++ []) h') (fun E h' => some (.inr E, h'))) := zx_cv (x0 := 6) rfl rfl rfl rfl rfl ⟨Nat.le_of_ble_eq_true rfl, rfl⟩ (fun _ _ => rfl)
theorem zs_94_12 (hs : znw l6 = true) : zrun zP sv C 94 12 [l0, l1, l2, l3, l4, l5, l6, l7, l8, l9] (.int x :: st) h = zrun zP sv C 94 14 [l0, l1, l2, l3, l4, l5, .val (.int x), l7, l8, l9] st h := zx_st hs rfl rfl rfl rfl rfl rfl
theorem zs_94_14 : zrun zP sv C 94 14 [l0, .val (.ref a), l2, l3, l4, l5, l6, l7, l8, l9] st h = zrun zP sv C 94 15 [l0, .val (.ref a), l2, l3, l4, l5, l6, l7, l8, l9] (.ref a :: st) h := zx_go rfl rfl
theorem zs_94_15 : zrun zP sv C 94 15 [l0, l1, .val (.int x), l3, l4, l5, l6, l7, l8, l9] st h = zrun zP sv C 94 16 [l0, l1, .val (.int x), l3, l4, l5, l6, l7, l8, l9] (.int x :: st) h := zx_go rfl rfl
theorem zs_94_16 : zrun zP sv C 94 16 [l0, l1, l2, l3, l4, l5, l6, l7, l8, l9] [v1, .ref b] h = zrc (h.1 b) 6 (zbk (C 187 [.ref b, v1] h) (fun v h' => zrun zP sv C 94 19 [l0, l1, l2, l3, l4, l5, l6, l7, l8, l9] (v.toList ++ []) h') (fun E h' => some (.inr E, h'))) := zx_cv (x0 := 6) rfl rfl rfl rfl rfl ⟨Nat.le_of_ble_eq_true rfl, rfl⟩ (fun _ _ => rfl)
theorem zs_94_19 (hs : znw l7 = true) : zrun zP sv C 94 19 [l0, l1, l2, l3, l4, l5, l6, l7, l8, l9] (.int x :: st) h = zrun zP sv C 94 21 [l0, l1, l2, l3, l4, l5, l6, .val (.int x), l8, l9] st h := zx_st hs rfl rfl rfl rfl rfl rfl
theorem zs_94_21 : zrun zP sv C 94 21 [l0, l1, l2, l3, l4, .val (.int x), l6, l7, l8, l9] st h = zrun zP sv C 94 23 [l0, l1, l2, l3, l4, .val (.int x), l6, l7, l8, l9] (.int x :: st) h := zx_go rfl rfl
theorem zs_94_23 : zrun zP sv C 94 23 [l0, l1, l2, l3, l4, l5, l6, l7, l8, l9] st h = zrun zP sv C 94 25 [l0, l1, l2, l3, l4, l5, l6, l7, l8, l9] (.int (nI 110) :: st) h := zx_go rfl rfl
theorem zs_94_25 : zrun zP sv C 94 25 [l0, l1, l2, l3, l4, l5, l6, l7, l8, l9] (.int y :: .int x :: st) h = if x = y then zrun zP sv C 94 28 [l0, l1, l2, l3, l4, l5, l6, l7, l8, l9] st h else zrun zP sv C 94 40 [l0, l1, l2, l3, l4, l5, l6, l7, l8, l9] st h := (zx_ic rfl rfl).trans zc1_if
theorem zs_94_28 : zrun zP sv C 94 28 [l0, l1, l2, l3, .val (.ref a), l5, l6, l7, l8, l9] st h = zrun zP sv C 94 30 [l0, l1, l2, l3, .val (.ref a), l5, l6, l7, l8, l9] (.ref a :: st) h := zx_go rfl rfl
theorem zs_94_30 : zrun zP sv C 94 30 [.val (.ref a), l1, l2, l3, l4, l5, l6, l7, l8, l9] st h = zrun zP sv C 94 31 [.val (.ref a), l1, l2, l3, l4, l5, l6, l7, l8, l9] (.ref a :: st) h := zx_go rfl rfl
theorem zs_94_31 : zrun zP sv C 94 31 [l0, l1, l2, l3, l4, l5, .val (.int x), l7, l8, l9] st h = zrun zP sv C 94 33 [l0, l1, l2, l3, l4, l5, .val (.int x), l7, l8, l9] (.int x :: st) h := zx_go rfl rfl
theorem zs_94_33 : zrun zP sv C 94 33 [l0, l1, l2, l3, l4, l5, l6, l7, l8, l9] [v1, .ref b, r0] h = zrc (h.1 b) 9 (zbk (C 91 [.ref b, v1] h) (fun v h' => zrun zP sv C 94 36 [l0, l1, l2, l3, l4, l5, l6, l7, l8, l9] (v.toList ++ [r0]) h') (fun E h' => some (.inr E, h'))) := zx_cv (x0 := 9) rfl rfl rfl rfl rfl ⟨Nat.le_of_ble_eq_true rfl, rfl⟩ (fun _ _ => rfl)
theorem zs_94_36 : zrun zP sv C 94 36 [l0, l1, l2, l3, l4, l5, l6, l7, l8, l9] [v1, .ref b] h = zrc (h.1 b) 6 (zbk (C 193 [.ref b, v1] h) (fun v h' => zrun zP sv C 94 39 [l0, l1, l2, l3, l4, l5, l6, l7, l8, l9] (v.toList ++ []) h') (fun E h' => some (.inr E, h'))) := zx_cv (x0 := 6) rfl rfl rfl rfl rfl ⟨Nat.le_of_ble_eq_true rfl, rfl⟩ (fun _ _ => rfl)
theorem zs_94_39 : zrun zP sv C 94 39 [l0, l1, l2, l3, l4, l5, l6, l7, l8, l9] [.int x] h = some (.inl (some (.int x)), h) := zx_end rfl rfl
theorem zs_94_40 : zrun zP sv C 94 40 [l0, l1, l2, l3, l4, .val (.int x), l6, l7, l8, l9] st h = zrun zP sv C 94 42 [l0, l1, l2, l3, l4, .val (.int x), l6, l7, l8, l9] (.int x :: st) h := zx_go rfl rfl
theorem zs_94_42 : zrun zP sv C 94 42 [l0, l1, l2, l3, l4, l5, l6, l7, l8, l9] st h = zrun zP sv C 94 44 [l0, l1, l2, l3, l4, l5, l6, l7, l8, l9] (.int (nI 43) :: st) h := zx_go rfl rfl
theorem zs_94_44 : zrun zP sv C 94 44 [l0, l1, l2, l3, l4, l5, l6, l7, l8, l9] (.int y :: .int x :: st) h = if x = y then zrun zP sv C 94 54 [l0, l1, l2, l3, l4, l5, l6, l7, l8, l9] st h else zrun zP sv C 94 47 [l0, l1, l2, l3, l4, l5, l6, l7, l8, l9] st h := (zx_ic rfl rfl).trans zc0_if
theorem zs_94_47 : zrun zP sv C 94 47 [l0, l1, l2, l3, l4, .val (.int x), l6, l7, l8, l9] st h = zrun zP sv C 94 49 [l0, l1, l2, l3, l4, .val (.int x), l6, l7, l8, l9] (.int x :: st) h := zx_go rfl rfl
theorem zs_94_49 : zrun zP sv C 94 49 [l0, l1, l2, l3, l4, l5, l6, l7, l8, l9] st h = zrun zP sv C 94 51 [l0, l1, l2, l3, l4, l5, l6, l7, l8, l9] (.int (nI 45) :: st) h := zx_go rfl rfl
theorem zs_94_51 : zrun zP sv C 94 51 [l0, l1, l2, l3, l4, l5, l6, l7, l8, l9] (.int y :: .int x :: st) h = if x = y then zrun zP sv C 94 54 [l0, l1, l2, l3, l4, l5, l6, l7, l8, l9] st h else zrun zP sv C 94 74 [l0, l1, l2, l3, l4, l5, l6, l7, l8, l9] st h := (zx_ic rfl rfl).trans zc1_if
theorem zs_94_54 : zrun zP sv C 94 54 [l0, l1, l2, l3, .val (.ref a), l5, l6, l7, l8, l9] st h = zrun zP sv C 94 56 [l0, l1, l2, l3, .val (.ref a), l5, l6, l7, l8, l9] (.ref a :: st) h := zx_go rfl rfl
theorem zs_94_56 : zrun zP sv C 94 56 [l0, l1, l2, l3, l4, .val (.int x), l6, l7, l8, l9] st h = zrun zP sv C 94 58 [l0, l1, l2, l3, l4, .val (.int x), l6, l7, l8, l9] (.int x :: st) h := zx_go rfl rfl
theorem zs_94_58 : zrun zP sv C 94 58 [.val (.ref a), l1, l2, l3, l4, l5, l6, l7, l8, l9] st h = zrun zP sv C 94 59 [.val (.ref a), l1, l2, l3, l4, l5, l6, l7, l8, l9] (.ref a :: st) h := zx_go rfl rfl
theorem zs_94_59 : zrun zP sv C 94 59 [l0, l1, l2, l3, l4, l5, .val (.int x), l7, l8, l9] st h = zrun zP sv C 94 61 [l0, l1, l2, l3, l4, l5, .val (.int x), l7, l8, l9] (.int x :: st) h := zx_go rfl rfl
theorem zs_94_61 : zrun zP sv C 94 61 [l0, l1, l2, l3, l4, l5, l6, l7, l8, l9] [v1, .ref b, r0, r1] h = zrc (h.1 b) 9 (zbk (C 91 [.ref b, v1] h) (fun v h' => zrun zP sv C 94 64 [l0, l1, l2, l3, l4, l5, l6, l7, l8, l9] (v.toList ++ [r0, r1]) h') (fun E h' => some (.inr E, h'))) := zx_cv (x0 := 9) rfl rfl rfl rfl rfl ⟨Nat.le_of_ble_eq_true rfl, rfl⟩ (fun _ _ => rfl)
theorem zs_94_64 : zrun zP sv C 94 64 [.val (.ref a), l1, l2, l3, l4, l5, l6, l7, l8, l9] st h = zrun zP sv C 94 65 [.val (.ref a), l1, l2, l3, l4, l5, l6, l7, l8, l9] (.ref a :: st) h := zx_go rfl rfl
theorem zs_94_65 : zrun zP sv C 94 65 [l0, l1, l2, l3, l4, l5, l6, .val (.int x), l8, l9] st h = zrun zP sv C 94 67 [l0, l1, l2, l3, l4, l5, l6, .val (.int x), l8, l9] (.int x :: st) h := zx_go rfl rfl
theorem zs_94_67 : zrun zP sv C 94 67 [l0, l1, l2, l3, l4, l5, l6, l7, l8, l9] [v1, .ref b, r0, r1, r2] h = zrc (h.1 b) 9 (zbk (C 91 [.ref b, v1] h) (fun v h' => zrun zP sv C 94 70 [l0, l1, l2, l3, l4, l5, l6, l7, l8, l9] (v.toList ++ [r0, r1, r2]) h') (fun E h' => some (.inr E, h'))) := zx_cv (x0 := 9) rfl rfl rfl rfl rfl ⟨Nat.le_of_ble_eq_true rfl, rfl⟩ (fun _ _ => rfl)
theorem zs_94_70 : zrun zP sv C 94 70 [l0, l1, l2, l3, l4, l5, l6, l7, l8, l9] [v3, v2, v1, .ref b] h = zrc (h.1 b) 6 (zbk (C 194 [.ref b, v1, v2, v3] h) (fun v h' => zrun zP sv C 94 73 [l0, l1, l2, l3, l4, l5, l6, l7, l8, l9] (v.toList ++ []) h') (fun E h' => some (.inr E, h'))) := zx_cv (x0 := 6) rfl rfl rfl rfl rfl ⟨Nat.le_of_ble_eq_true rfl, rfl⟩ (fun _ _ => rfl)
theorem zs_94_73 : zrun zP sv C 94 73 [l0, l1, l2, l3, l4, l5, l6, l7, l8, l9] [.int x] h = some (.inl (some (.int x)), h) := zx_end rfl rfl
theorem zs_94_74 : zrun zP sv C 94 74 [l0, l1, l2, l3, l4, .val (.int x), l6, l7, l8, l9] st h = zrun zP sv C 94 76 [l0, l1, l2, l3, l4, .val (.int x), l6, l7, l8, l9] (.int x :: st) h := zx_go rfl rfl
theorem zs_94_76 : zrun zP sv C 94 76 [l0, l1, l2, l3, l4, l5, l6, l7, l8, l9] st h = zrun zP sv C 94 78 [l0, l1, l2, l3, l4, l5, l6, l7, l8, l9] (.int (nI 42) :: st) h := zx_go rfl rfl
theorem zs_94_78 : zrun zP sv C 94 78 [l0, l1, l2, l3, l4, l5, l6, l7, l8, l9] (.int y :: .int x :: st) h = if x = y then zrun zP sv C 94 81 [l0, l1, l2, l3, l4, l5, l6, l7, l8, l9] st h else zrun zP sv C 94 127 [l0, l1, l2, l3, l4, l5, l6, l7, l8, l9] st h := (zx_ic rfl rfl).trans zc1_if
theorem zs_94_81 : zrun zP sv C 94 81 [l0, l1, l2, l3, .val (.ref a), l5, l6, l7, l8, l9] st h = zrun zP sv C 94 83 [l0, l1, l2, l3, .val (.ref a), l5, l6, l7, l8, l9] (.ref a :: st) h := zx_go rfl rfl
theorem zs_94_83 : zrun zP sv C 94 83 [l0, l1, l2, l3, l4, l5, l6, l7, l8, l9] st h = zrun zP sv C 94 85 [l0, l1, l2, l3, l4, l5, l6, l7, l8, l9] (.int (nI 42) :: st) h := zx_go rfl rfl
theorem zs_94_85 : zrun zP sv C 94 85 [.val (.ref a), l1, l2, l3, l4, l5, l6, l7, l8, l9] st h = zrun zP sv C 94 86 [.val (.ref a), l1, l2, l3, l4, l5, l6, l7, l8, l9] (.ref a :: st) h := zx_go rfl rfl
theorem zs_94_86 : zrun zP sv C 94 86 [l0, l1, l2, l3, l4, l5, .val (.int x), l7, l8, l9] st h = zrun zP sv C 94 88 [l0, l1, l2, l3, l4, l5, .val (.int x), l7, l8, l9] (.int x :: st) h := zx_go rfl rfl
theorem zs_94_88 : zrun zP sv C 94 88 [l0, l1, l2, l3, l4, l5, l6, l7, l8, l9] [v1, .ref b, r0, r1] h = zrc (h.1 b) 9 (zbk (C 91 [.ref b, v1] h) (fun v h' => zrun zP sv C 94 91 [l0, l1, l2, l3, l4, l5, l6, l7, l8, l9] (v.toList ++ [r0, r1]) h') (fun E h' => some (.inr E, h'))) := zx_cv (x0 := 9) rfl rfl rfl rfl rfl ⟨Nat.le_of_ble_eq_true rfl, rfl⟩ (fun _ _ => rfl)
theorem zs_94_91 : zrun zP sv C 94 91 [l0, l1, l2, l3, l4, l5, l6, .val (.int x), l8, l9] st h = zrun zP sv C 94 93 [l0, l1, l2, l3, l4, l5, l6, .val (.int x), l8, l9] (.int x :: st) h := zx_go rfl rfl
theorem zs_94_93 : zrun zP sv C 94 93 [l0, l1, l2, l3, l4, l5, l6, l7, l8, l9] [v3, v2, v1, .ref b] h = zrc (h.1 b) 6 (zbk (C 194 [.ref b, v1, v2, v3] h) (fun v h' => zrun zP sv C 94 96 [l0, l1, l2, l3, l4, l5, l6, l7, l8, l9] (v.toList ++ []) h') (fun E h' => some (.inr E, h'))) := zx_cv (x0 := 6) rfl rfl rfl rfl rfl ⟨Nat.le_of_ble_eq_true rfl, rfl⟩ (fun _ _ => rfl)
theorem zs_94_96 (hs : znw l8 = true) : zrun zP sv C 94 96 [l0, l1, l2, l3, l4, l5, l6, l7, l8, l9] (.int x :: st) h = zrun zP sv C 94 98 [l0, l1, l2, l3, l4, l5, l6, l7, .val (.int x), l9] st h := zx_st hs rfl rfl rfl rfl rfl rfl
theorem zs_94_98 : zrun zP sv C 94 98 [l0, l1, l2, l3, .val (.ref a), l5, l6, l7, l8, l9] st h = zrun zP sv C 94 100 [l0, l1, l2, l3, .val (.ref a), l5, l6, l7, l8, l9] (.ref a :: st) h := zx_go rfl rfl
theorem zs_94_100 : zrun zP sv C 94 100 [l0, l1, l2, l3, l4, l5, l6, l7, l8, l9] st h = zrun zP sv C 94 102 [l0, l1, l2, l3, l4, l5, l6, l7, l8, l9] (.int (nI 42) :: st) h := zx_go rfl rfl
theorem zs_94_102 : zrun zP sv C 94 102 [l0, l1, l2, l3, l4, l5, .val (.int x), l7, l8, l9] st h = zrun zP sv C 94 104 [l0, l1, l2, l3, l4, l5, .val (.int x), l7, l8, l9] (.int x :: st) h := zx_go rfl rfl
theorem zs_94_104 : zrun zP sv C 94 104 [.val (.ref a), l1, l2, l3, l4, l5, l6, l7, l8, l9] st h = zrun zP sv C 94 105 [.val (.ref a), l1, l2, l3, l4, l5, l6, l7, l8, l9] (.ref a :: st) h := zx_go rfl rfl
theorem zs_94_105 : zrun zP sv C 94 105 [l0, l1, l2, l3, l4, l5, l6, .val (.int x), l8, l9] st h = zrun zP sv C 94 107 [l0, l1, l2, l3, l4, l5, l6, .val (.int x), l8, l9] (.int x :: st) h := zx_go rfl rfl
theorem zs_94_107 : zrun zP sv C 94 107 [l0, l1, l2, l3, l4, l5, l6, l7, l8, l9] [v1, .ref b, r0, r1, r2] h = zrc (h.1 b) 9 (zbk (C 91 [.ref b, v1] h) (fun v h' => zrun zP sv C 94 110 [l0, l1, l2, l3, l4, l5, l6, l7, l8, l9] (v.toList ++ [r0, r1, r2]) h') (fun E h' => some (.inr E, h'))) := zx_cv (x0 := 9) rfl rfl rfl rfl rfl ⟨Nat.le_of_ble_eq_true rfl, rfl⟩ (fun _ _ => rfl)
theorem zs_94_110 : zrun zP sv C 94 110 [l0, l1, l2, l3, l4, l5, l6, l7, l8, l9] [v3, v2, v1, .ref b] h = zrc (h.1 b) 6 (zbk (C 194 [.ref b, v1, v2, v3] h) (fun v h' => zrun zP sv C 94 113 [l0, l1, l2, l3, l4, l5, l6, l7, l8, l9] (v.toList ++ []) h') (fun E h' => some (.inr E, h'))) := zx_cv (x0 := 6) rfl rfl rfl rfl rfl ⟨Nat.le_of_ble_eq_true rfl, rfl⟩ (fun _ _ => rfl)
theorem zs_94_113 (hs : znw l9 = true) : zrun zP sv C 94 113 [l0, l1, l2, l3, l4, l5, l6, l7, l8, l9] (.int x :: st) h = zrun zP sv C 94 115 [l0, l1, l2, l3, l4, l5, l6, l7, l8, .val (.int x)] st h := zx_st hs rfl rfl rfl rfl rfl rfl
theorem zs_94_115 : zrun zP sv C 94 115 [l0, l1, l2, l3, .val (.ref a), l5, l6, l7, l8, l9] st h = zrun zP sv C 94 117 [l0, l1, l2, l3, .val (.ref a), l5, l6, l7, l8, l9] (.ref a :: st) h := zx_go rfl rfl
theorem zs_94_117 : zrun zP sv C 94 117 [l0, l1, l2, l3, l4, l5, l6, l7, l8, l9] st h = zrun zP sv C 94 119 [l0, l1, l2, l3, l4, l5, l6, l7, l8, l9] (.int (nI 43) :: st) h := zx_go rfl rfl
theorem zs_94_119 : zrun zP sv C 94 119 [l0, l1, l2, l3, l4, l5, l6, l7, .val (.int x), l9] st h = zrun zP sv C 94 121 [l0, l1, l2, l3, l4, l5, l6, l7, .val (.int x), l9] (.int x :: st) h := zx_go rfl rfl
theorem zs_94_121 : zrun zP sv C 94 121 [l0, l1, l2, l3, l4, l5, l6, l7, l8, .val (.int x)] st h = zrun zP sv C 94 123 [l0, l1, l2, l3, l4, l5, l6, l7, l8, .val (.int x)] (.int x :: st) h := zx_go rfl rfl
theorem zs_94_123 : zrun zP sv C 94 123 [l0, l1, l2, l3, l4, l5, l6, l7, l8, l9] [v3, v2, v1, .ref b] h = zrc (h.1 b) 6 (zbk (C 194 [.ref b, v1, v2, v3] h) (fun v h' => zrun zP sv C 94 126 [l0, l1, l2, l3, l4, l5, l6, l7, l8, l9] (v.toList ++ []) h') (fun E h' => some (.inr E, h'))) := zx_cv (x0 := 6) rfl rfl rfl rfl rfl ⟨Nat.le_of_ble_eq_true rfl, rfl⟩ (fun _ _ => rfl)
theorem zs_94_126 : zrun zP sv C 94 126 [l0, l1, l2, l3, l4, l5, l6, l7, l8, l9] [.int x] h = some (.inl (some (.int x)), h) := zx_end rfl rfl
theorem zs_94_127 : zrun zP sv C 94 127 [l0, l1, l2, l3, .val (.ref a), l5, l6, l7, l8, l9] st h = zrun zP sv C 94 129 [l0, l1, l2, l3, .val (.ref a), l5, l6, l7, l8, l9] (.ref a :: st) h := zx_go rfl rfl
theorem zs_94_129 : zrun zP sv C 94 129 [l0, .val (.ref a), l2, l3, l4, l5, l6, l7, l8, l9] st h = zrun zP sv C 94 130 [l0, .val (.ref a), l2, l3, l4, l5, l6, l7, l8, l9] (.ref a :: st) h := zx_go rfl rfl
theorem zs_94_130 : zrun zP sv C 94 130 [l0, l1, .val (.int x), l3, l4, l5, l6, l7, l8, l9] st h = zrun zP sv C 94 131 [l0, l1, .val (.int x), l3, l4, l5, l6, l7, l8, l9] (.int x :: st) h := zx_go rfl rfl
theorem zs_94_131 : zrun zP sv C 94 131 [l0, l1, l2, .val (.int x), l4, l5, l6, l7, l8, l9] st h = zrun zP sv C 94 132 [l0, l1, l2, .val (.int x), l4, l5, l6, l7, l8, l9] (.int x :: st) h := zx_go rfl rfl
theorem zs_94_132 : zrun zP sv C 94 132 [l0, l1, l2, l3, l4, l5, l6, l7, l8, l9] [v2, v1, .ref b, r0] h = zrc (h.1 b) 6 (zbk (C 188 [.ref b, v1, v2] h) (fun v h' => zrun zP sv C 94 135 [l0, l1, l2, l3, l4, l5, l6, l7, l8, l9] (v.toList ++ [r0]) h') (fun E h' => some (.inr E, h'))) := zx_cv (x0 := 6) rfl rfl rfl rfl rfl ⟨Nat.le_of_ble_eq_true rfl, rfl⟩ (fun _ _ => rfl)
theorem zs_94_135 : zrun zP sv C 94 135 [l0, l1, l2, l3, l4, l5, l6, l7, l8, l9] (.int x :: st) h = if x = 0 then zrun zP sv C 94 142 [l0, l1, l2, l3, l4, l5, l6, l7, l8, l9] st h else zrun zP sv C 94 138 [l0, l1, l2, l3, l4, l5, l6, l7, l8, l9] st h := (zx_if rfl rfl).trans zc0_if
theorem zs_94_138 : zrun zP sv C 94 138 [l0, l1, l2, l3, l4, l5, l6, l7, l8, l9] st h = zrun zP sv C 94 139 [l0, l1, l2, l3, l4, l5, l6, l7, l8, l9] (.int (nI 1) :: st) h := zx_go rfl rfl
theorem zs_94_139 : zrun zP sv C 94 139 [l0, l1, l2, l3, l4, l5, l6, l7, l8, l9] st h = zrun zP sv C 94 143 [l0, l1, l2, l3, l4, l5, l6, l7, l8, l9] st h := zx_go rfl rfl
theorem zs_94_142 : zrun zP sv C 94 142 [l0, l1, l2, l3, l4, l5, l6, l7, l8, l9] st h = zrun zP sv C 94 143 [l0, l1, l2, l3, l4, l5, l6, l7, l8, l9] (.int 0 :: st) h := zx_go rfl rfl
theorem zs_94_143 : zrun zP sv C 94 143 [l0, l1, l2, l3, l4, l5, l6, l7, l8, l9] [v1, .ref b] h = zrc (h.1 b) 6 (zbk (C 192 [.ref b, v1] h) (fun v h' => zrun zP sv C 94 146 [l0, l1, l2, l3, l4, l5, l6, l7, l8, l9] (v.toList ++ []) h') (fun E h' => some (.inr E, h'))) := zx_cv (x0 := 6) rfl rfl rfl rfl rfl ⟨Nat.le_of_ble_eq_true rfl, rfl⟩ (fun _ _ => rfl)
theorem zs_94_146 : zrun zP sv C 94 146 [l0, l1, l2, l3, l4, l5, l6, l7, l8, l9] [.int x] h = some (.inl (some (.int x)), h) := zx_end rfl rfl
theorem zs_95_0 : zrun zP sv C 95 0 [l0, l1, l2, .val (.ref a), l4] st h = zrun zP sv C 95 1 [l0, l1, l2, .val (.ref a), l4] (.ref a :: st) h := zx_go rfl rfl
theorem zs_95_1 : zrun zP sv C 95 1 [l0, l1, l2, l3, l4] [.ref b] h = zrc (h.1 b) 6 (zbk (C 190 [.ref b] h) (fun v h' => zrun zP sv C 95 4 [l0, l1, l2, l3, l4] (v.toList ++ []) h') (fun E h' => some (.inr E, h'))) := zx_cv (x0 := 6) rfl rfl rfl rfl rfl ⟨Nat.le_of_ble_eq_true rfl, rfl⟩ (fun _ _ => rfl)
theorem zs_95_4 : zrun zP sv C 95 4 [l0, l1, l2, l3, l4] st h = zrun zP sv C 95 5 [l0, l1, l2, l3, l4] (.int 0 :: st) h := zx_go rfl rfl
theorem zs_95_5 (hs : znw l4 = true) : zrun zP sv C 95 5 [l0, l1, l2, l3, l4] (.int x :: st) h = zrun zP sv C 95 7 [l0, l1, l2, l3, .val (.int x)] st h := zx_st hs rfl rfl rfl rfl rfl rfl
theorem zs_95_7 : zrun zP sv C 95 7 [l0, l1, l2, l3, .val (.int x)] st h = zrun zP sv C 95 9 [l0, l1, l2, l3, .val (.int x)] (.int x :: st) h := zx_go rfl rfl
theorem zs_95_9 : zrun zP sv C 95 9 [l0, .val (.ref a), l2, l3, l4] st h = zrun zP sv C 95 10 [l0, .val (.ref a), l2, l3, l4] (.ref a :: st) h := zx_go rfl rfl
theorem zs_95_10 : zrun zP sv C 95 10 [l0, l1, l2, l3, l4] [.ref b, r0] h = zrc (h.1 b) 6 (zbk (C 182 [.ref b] h) (fun v h' => zrun zP sv C 95 13 [l0, l1, l2, l3, l4] (v.toList ++ [r0]) h') (fun E h' => some (.inr E, h'))) := zx_cv (x0 := 6) rfl rfl rfl rfl rfl ⟨Nat.le_of_ble_eq_true rfl, rfl⟩ (fun _ _ => rfl)
theorem zs_95_13 : zrun zP sv C 95 13 [l0, l1, l2, l3, l4] (.int y :: .int x :: st) h = if x < y then zrun zP sv C 95 16 [l0, l1, l2, l3, l4] st h else zrun zP sv C 95 39 [l0, l1, l2, l3, l4] st h := (zx_ic rfl rfl).trans zc3_if
theorem zs_95_16 : zrun zP sv C 95 16 [.val (.ref a), l1, l2, l3, l4] st h = zrun zP sv C 95 17 [.val (.ref a), l1, l2, l3, l4] (.ref a :: st) h := zx_go rfl rfl
theorem zs_95_17 : zrun zP sv C 95 17 [l0, l1, l2, l3, l4] (.ref a :: st) h = zfld (h.1 a) 9 0 (fun v => zrun zP sv C 95 20 [l0, l1, l2, l3, l4] (v :: st) h) := zx_getf rfl rfl
theorem zs_95_20 : zrun zP sv C 95 20 [l0, l1, l2, l3, .val (.int x)] st h = zrun zP sv C 95 22 [l0, l1, l2, l3, .val (.int x)] (.int x :: st) h := zx_go rfl rfl
theorem zs_95_22 : zrun zP sv C 95 22 [.val (.ref a), l1, l2, l3, l4] st h = zrun zP sv C 95 23 [.val (.ref a), l1, l2, l3, l4] (.ref a :: st) h := zx_go rfl rfl
theorem zs_95_23 : zrun zP sv C 95 23 [l0, .val (.ref a), l2, l3, l4] st h = zrun zP sv C 95 24 [l0, .val (.ref a), l2, l3, l4] (.ref a :: st) h := zx_go rfl rfl
theorem zs_95_24 : zrun zP sv C 95 24 [l0, l1, l2, l3, .val (.int x)] st h = zrun zP sv C 95 26 [l0, l1, l2, l3, .val (.int x)] (.int x :: st) h := zx_go rfl rfl
theorem zs_95_26 : zrun zP sv C 95 26 [l0, l1, l2, .val (.ref a), l4] st h = zrun zP sv C 95 27 [l0, l1, l2, .val (.ref a), l4] (.ref a :: st) h := zx_go rfl rfl
theorem zs_95_27 : zrun zP sv C 95 27 [l0, l1, l2, l3, l4] [v3, v2, v1, .ref b, r0, r1] h = zrc (h.1 b) 9 (zbk (C 96 [.ref b, v1, v2, v3] h) (fun v h' => zrun zP sv C 95 30 [l0, l1, l2, l3, l4] (v.toList ++ [r0, r1]) h') (fun E h' => some (.inr E, h'))) := zx_cv (x0 := 9) rfl rfl rfl rfl rfl ⟨Nat.le_of_ble_eq_true rfl, rfl⟩ (fun _ _ => rfl)
theorem zs_95_30 : zrun zP sv C 95 30 [l0, l1, l2, l3, l4] [v2, v1, .ref b] h = zrc (h.1 b) 4 (zbk (C 166 [.ref b, v1, v2] h) (fun v h' => zrun zP sv C 95 33 [l0, l1, l2, l3, l4] (v.toList ++ []) h') (fun E h' => some (.inr E, h'))) := zx_cv (x0 := 4) rfl rfl rfl rfl rfl ⟨Nat.le_of_ble_eq_true rfl, rfl⟩ (fun _ _ => rfl)
theorem zs_95_33 : zrun zP sv C 95 33 [l0, l1, l2, l3, .val (.int x)] st h = zrun zP sv C 95 36 [l0, l1, l2, l3, .val (.int (x + (nI 1)))] st h := zx_ii rfl rfl rfl rfl rfl
theorem zs_95_36 : zrun zP sv C 95 36 [l0, l1, l2, l3, l4] st h = zrun zP sv C 95 7 [l0, l1, l2, l3, l4] st h := zx_go rfl rfl
theorem zs_95_39 : zrun zP sv C 95 39 [.val (.ref a), l1, l2, l3, l4] st h = zrun zP sv C 95 40 [.val (.ref a), l1, l2, l3, l4] (.ref a :: st) h := zx_go rfl rfl
theorem zs_95_40 : zrun zP sv C 95 40 [l0, l1, .val (.int x), l3, l4] st h = zrun zP sv C 95 41 [l0, l1, .val (.int x), l3, l4] (.int x :: st) h := zx_go rfl rfl
theorem zs_95_41 : zrun zP sv C 95 41 [l0, l1, l2, l3, l4] [v1, .ref b] h = zrc (h.1 b) 9 (zbk (C 91 [.ref b, v1] h) (fun v h' => zrun zP sv C 95 44 [l0, l1, l2, l3, l4] (v.toList ++ []) h') (fun E h' => some (.inr E, h'))) := zx_cv (x0 := 9) rfl rfl rfl rfl rfl ⟨Nat.le_of_ble_eq_true rfl, rfl⟩ (fun _ _ => rfl)
theorem zs_95_44 : zrun zP sv C 95 44 [l0, l1, l2, l3, l4] [.int x] h = some (.inl (some (.int x)), h) := zx_end rfl rfl
theorem zs_96_0 : zrun zP sv C 96 0 [l0, .val (.ref a), l2, l3, l4, l5, l6] st h = zrun zP sv C 96 1 [l0, .val (.ref a), l2, l3, l4, l5, l6] (.ref a :: st) h := zx_go rfl rfl
theorem zs_96_1 : zrun zP sv C 96 1 [l0, l1, .val (.int x), l3, l4, l5, l6] st h = zrun zP sv C 96 2 [l0, l1, .val (.int x), l3, l4, l5, l6] (.int x :: st) h := zx_go rfl rfl
theorem zs_96_2 : zrun zP sv C 96 2 [l0, l1, l2, l3, l4, l5, l6] [v1, .ref b] h = zrc (h.1 b) 6 (zbk (C 184 [.ref b, v1] h) (fun v h' => zrun zP sv C 96 5 [l0, l1, l2, l3, l4, l5, l6] (v.toList ++ []) h') (fun E h' => some (.inr E, h'))) := zx_cv (x0 := 6) rfl rfl rfl rfl rfl ⟨Nat.le_of_ble_eq_true rfl, rfl⟩ (fun _ _ => rfl)
theorem zs_96_5 (hs : znw l4 = true) : zrun zP sv C 96 5 [l0, l1, l2, l3, l4, l5, l6] (.int x :: st) h = zrun zP sv C 96 7 [l0, l1, l2, l3, .val (.int x), l5, l6] st h := zx_st hs rfl rfl rfl rfl rfl rfl
theorem zs_96_7 : zrun zP sv C 96 7 [.val (.ref a), l1, l2, l3, l4, l5, l6] st h = zrun zP sv C 96 8 [.val (.ref a), l1, l2, l3, l4, l5, l6] (.ref a :: st) h := zx_go rfl rfl
theorem zs_96_8 : zrun zP sv C 96 8 [l0, .val (.ref a), l2, l3, l4, l5, l6] st h = zrun zP sv C 96 9 [l0, .val (.ref a), l2, l3, l4, l5, l6] (.ref a :: st) h := zx_go rfl rfl
theorem zs_96_9 : zrun zP sv C 96 9 [l0, l1, .val (.int x), l3, l4, l5, l6] st h = zrun zP sv C 96 10 [l0, l1, .val (.int x), l3, l4, l5, l6] (.int x :: st) h := zx_go rfl rfl
theorem zs_96_10 : zrun zP sv C 96 10 [l0, l1, l2, l3, l4, l5, l6] [v1, .ref b, r0] h = zrc (h.1 b) 6 (zbk (C 186 [.ref b, v1] h) (fun v h' => zrun zP sv C 96 13 [l0, l1, l2, l3, l4, l5, l6] (v.toList ++ [r0]) h') (fun E h' => some (.inr E, h'))) := zx_cv (x0 := 6) rfl rfl rfl rfl rfl ⟨Nat.le_of_ble_eq_true rfl, rfl⟩ (fun _ _ => rfl)
theorem zs_96_13 : zrun zP sv C 96 13 [l0, l1, l2, l3, l4, l5, l6] [v1, .ref b] h = zrc (h.1 b) 9 (zbk (C 91 [.ref b, v1] h) (fun v h' => zrun zP sv C 96 16 [l0, l1, l2, l3, l4, l5, l6] (v.toList ++ []) h') (fun E h' => some (.inr E, h'))) := zx_cv (x0 := 9) rfl rfl rfl rfl rfl ⟨Nat.le_of_ble_eq_true rfl, rfl⟩ (fun _ _ => rfl)
theorem zs_96_16 (hs : znw l5 = true) : zrun zP sv C 96 16 [l0, l1, l2, l3, l4, l5, l6] (.int x :: st) h = zrun zP sv C 96 18 [l0, l1, l2, l3, l4, .val (.int x), l6] st h := zx_st hs rfl rfl rfl rfl rfl rfl
theorem zs_96_18 : zrun zP sv C 96 18 [.val (.ref a), l1, l2, l3, l4, l5, l6] st h = zrun zP sv C 96 19 [.val (.ref a), l1, l2, l3, l4, l5, l6] (.ref a :: st) h := zx_go rfl rfl
theorem zs_96_19 : zrun zP sv C 96 19 [l0, .val (.ref a), l2, l3, l4, l5, l6] st h = zrun zP sv C 96 20 [l0, .val (.ref a), l2, l3, l4, l5, l6] (.ref a :: st) h := zx_go rfl rfl
theorem zs_96_20 : zrun zP sv C 96 20 [l0, l1, .val (.int x), l3, l4, l5, l6] st h = zrun zP sv C 96 21 [l0, l1, .val (.int x), l3, l4, l5, l6] (.int x :: st) h := zx_go rfl rfl
theorem zs_96_21 : zrun zP sv C 96 21 [l0, l1, l2, l3, l4, l5, l6] [v1, .ref b, r0] h = zrc (h.1 b) 6 (zbk (C 187 [.ref b, v1] h) (fun v h' => zrun zP sv C 96 24 [l0, l1, l2, l3, l4, l5, l6] (v.toList ++ [r0]) h') (fun E h' => some (.inr E, h'))) := zx_cv (x0 := 6) rfl rfl rfl rfl rfl ⟨Nat.le_of_ble_eq_true rfl, rfl⟩ (fun _ _ => rfl)
theorem zs_96_24 : zrun zP sv C 96 24 [l0, l1, l2, l3, l4, l5, l6] [v1, .ref b] h = zrc (h.1 b) 9 (zbk (C 91 [.ref b, v1] h) (fun v h' => zrun zP sv C 96 27 [l0, l1, l2, l3, l4, l5, l6] (v.toList ++ []) h') (fun E h' => some (.inr E, h'))) := zx_cv (x0 := 9) rfl rfl rfl rfl rfl ⟨Nat.le_of_ble_eq_true rfl, rfl⟩ (fun _ _ => rfl)
theorem zs_96_27 (hs : znw l6 = true) : zrun zP sv C 96 27 [l0, l1, l2, l3, l4, l5, l6] (.int x :: st) h = zrun zP sv C 96 29 [l0, l1, l2, l3, l4, l5, .val (.int x)] st h := zx_st hs rfl rfl rfl rfl rfl rfl
theorem zs_96_29 : zrun zP sv C 96 29 [l0, l1, l2, l3, .val (.int x), l5, l6] st h = zrun zP sv C 96 31 [l0, l1, l2, l3, .val (.int x), l5, l6] (.int x :: st) h := zx_go rfl rfl
theorem zs_96_31 : zrun zP sv C 96 31 [l0, l1, l2, l3, l4, l5, l6] st h = zrun zP sv C 96 33 [l0, l1, l2, l3, l4, l5, l6] (.int (nI 110) :: st) h := zx_go rfl rfl
theorem zs_96_33 : zrun zP sv C 96 33 [l0, l1, l2, l3, l4, l5, l6] (.int y :: .int x :: st) h = if x = y then zrun zP sv C 96 36 [l0, l1, l2, l3, l4, l5, l6] st h else zrun zP sv C 96 43 [l0, l1, l2, l3, l4, l5, l6] st h := (zx_ic rfl rfl).trans zc1_if
theorem zs_96_36 : zrun zP sv C 96 36 [l0, l1, l2, l3, l4, .val (.int x), l6] st h = zrun zP sv C 96 38 [l0, l1, l2, l3, l4, .val (.int x), l6] (.int x :: st) h := zx_go rfl rfl
theorem zs_96_38 : zrun zP sv C 96 38 [l0, l1, l2, .val (.ref a), l4, l5, l6] st h = zrun zP sv C 96 39 [l0, l1, l2, .val (.ref a), l4, l5, l6] (.ref a :: st) h := zx_go rfl rfl
theorem zs_96_39 : zrun zP sv C 96 39 [l0, l1, l2, l3, l4, l5, l6] [v1, v0] h = zbk (C 97 [v0, v1] h) (fun v h' => zrun zP sv C 96 42 [l0, l1, l2, l3, l4, l5, l6] (v.toList ++ []) h') (fun E h' => some (.inr E, h')) := zx_cs rfl rfl rfl rfl ⟨Nat.le_of_ble_eq_true rfl, rfl⟩ (fun _ _ => rfl)
theorem zs_96_42 : zrun zP sv C 96 42 [l0, l1, l2, l3, l4, l5, l6] [.int x] h = some (.inl (some (.int x)), h) := zx_end rfl rfl
theorem zs_96_43 : zrun zP sv C 96 43 [l0, l1, l2, l3, .val (.int x), l5, l6] st h = zrun zP sv C 96 45 [l0, l1, l2, l3, .val (.int x), l5, l6] (.int x :: st) h := zx_go rfl rfl
theorem zs_96_45 : zrun zP sv C 96 45 [l0, l1, l2, l3, l4, l5, l6] [v0] h = zbk (C 83 [v0] h) (fun v h' => zrun zP sv C 96 48 [l0, l1, l2, l3, l4, l5, l6] (v.toList ++ []) h') (fun E h' => some (.inr E, h')) := zx_cs rfl rfl rfl rfl ⟨Nat.le_of_ble_eq_true rfl, rfl⟩ (fun _ _ => rfl)
theorem zs_96_48 : zrun zP sv C 96 48 [l0, l1, l2, l3, l4, l5, l6] (.int x :: st) h = if x = 0 then zrun zP sv C 96 51 [l0, l1, l2, l3, l4, l5, l6] st h else zrun zP sv C 96 65 [l0, l1, l2, l3, l4, l5, l6] st h := (zx_if rfl rfl).trans zc1_if
theorem zs_96_51 : zrun zP sv C 96 51 [l0, l1, l2, .val (.ref a), l4, l5, l6] st h = zrun zP sv C 96 52 [l0, l1, l2, .val (.ref a), l4, l5, l6] (.ref a :: st) h := zx_go rfl rfl
theorem zs_96_52 : zrun zP sv C 96 52 [l0, l1, l2, l3, .val (.int x), l5, l6] st h = zrun zP sv C 96 54 [l0, l1, l2, l3, .val (.int x), l5, l6] (.int x :: st) h := zx_go rfl rfl
theorem zs_96_54 : zrun zP sv C 96 54 [l0, .val (.ref a), l2, l3, l4, l5, l6] st h = zrun zP sv C 96 55 [l0, .val (.ref a), l2, l3, l4, l5, l6] (.ref a :: st) h := zx_go rfl rfl
theorem zs_96_55 : zrun zP sv C 96 55 [l0, l1, .val (.int x), l3, l4, l5, l6] st h = zrun zP sv C 96 56 [l0, l1, .val (.int x), l3, l4, l5, l6] (.int x :: st) h := zx_go rfl rfl
theorem zs_96_56 : zrun zP sv C 96 56 [l0, l1, l2, l3, l4, l5, l6] [v1, .ref b, r0, r1] h = zrc (h.1 b) 6 (zbk (C 185 [.ref b, v1] h) (fun v h' => zrun zP sv C 96 59 [l0, l1, l2, l3, l4, l5, l6] (v.toList ++ [r0, r1]) h') (fun E h' => some (.inr E, h'))) := zx_cv (x0 := 6) rfl rfl rfl rfl rfl ⟨Nat.le_of_ble_eq_true rfl, rfl⟩ (fun _ _ => rfl)
theorem zs_96_59 : zrun zP sv C 96 59 [l0, l1, l2, l3, l4, l5, l6] st h = zrun zP sv C 96 60 [l0, l1, l2, l3, l4, l5, l6] (.int (-1) :: st) h := zx_go rfl rfl
theorem zs_96_60 : zrun zP sv C 96 60 [l0, l1, l2, l3, l4, l5, l6] st h = zrun zP sv C 96 61 [l0, l1, l2, l3, l4, l5, l6] (.int (-1) :: st) h := zx_go rfl rfl
theorem zs_96_61 : zrun zP sv C 96 61 [l0, l1, l2, l3, l4, l5, l6] [v4, v3, v2, v1, .ref b] h = zrc (h.1 b) 6 (zbk (C 191 [.ref b, v1, v2, v3, v4] h) (fun v h' => zrun zP sv C 96 64 [l0, l1, l2, l3, l4, l5, l6] (v.toList ++ []) h') (fun E h' => some (.inr E, h'))) := zx_cv (x0 := 6) rfl rfl rfl rfl rfl ⟨Nat.le_of_ble_eq_true rfl, rfl⟩ (fun _ _ => rfl)
theorem zs_96_64 : zrun zP sv C 96 64 [l0, l1, l2, l3, l4, l5, l6] [.int x] h = some (.inl (some (.int x)), h) := zx_end rfl rfl
theorem zs_96_65 : zrun zP sv C 96 65 [l0, l1, l2, .val (.ref a), l4, l5, l6] st h = zrun zP sv C 96 66 [l0, l1, l2, .val (.ref a), l4, l5, l6] (.ref a :: st) h := zx_go rfl rfl
theorem zs_96_66 : zrun zP sv C 96 66 [l0, l1, l2, l3, l4, .val (.int x), l6] st h = zrun zP sv C 96 68 [l0, l1, l2, l3, l4, .val (.int x), l6] (.int x :: st) h := zx_go rfl rfl
theorem zs_96_68 : zrun zP sv C 96 68 [l0, l1, l2, l3, l4, l5, l6] [v1, .ref b] h = zrc (h.1 b) 6 (zbk (C 184 [.ref b, v1] h) (fun v h' => zrun zP sv C 96 71 [l0, l1, l2, l3, l4, l5, l6] (v.toList ++ []) h') (fun E h' => some (.inr E, h'))) := zx_cv (x0 := 6) rfl rfl rfl rfl rfl ⟨Nat.le_of_ble_eq_true rfl, rfl⟩ (fun _ _ => rfl)
theorem zs_96_71 : zrun zP sv C 96 71 [l0, l1, l2, l3, l4, l5, l6] st h = zrun zP sv C 96 73 [l0, l1, l2, l3, l4, l5, l6] (.int (nI 99) :: st) h := zx_go rfl rfl
theorem zs_96_73 : zrun zP sv C 96 73 [l0, l1, l2, l3, l4, l5, l6] (.int y :: .int x :: st) h = if x = y then zrun zP sv C 96 76 [l0, l1, l2, l3, l4, l5, l6] st h else zrun zP sv C 96 109 [l0, l1, l2, l3, l4, l5, l6] st h := (zx_ic rfl rfl).trans zc1_if
theorem zs_96_76 : zrun zP sv C 96 76 [l0, l1, l2, .val (.ref a), l4, l5, l6] st h = zrun zP sv C 96 77 [l0, l1, l2, .val (.ref a), l4, l5, l6] (.ref a :: st) h := zx_go rfl rfl
theorem zs_96_77 : zrun zP sv C 96 77 [l0, l1, l2, l3, l4, l5, .val (.int x)] st h = zrun zP sv C 96 79 [l0, l1, l2, l3, l4, l5, .val (.int x)] (.int x :: st) h := zx_go rfl rfl
theorem zs_96_79 : zrun zP sv C 96 79 [l0, l1, l2, l3, l4, l5, l6] [v1, .ref b] h = zrc (h.1 b) 6 (zbk (C 184 [.ref b, v1] h) (fun v h' => zrun zP sv C 96 82 [l0, l1, l2, l3, l4, l5, l6] (v.toList ++ []) h') (fun E h' => some (.inr E, h'))) := zx_cv (x0 := 6) rfl rfl rfl rfl rfl ⟨Nat.le_of_ble_eq_true rfl, rfl⟩ (fun _ _ => rfl)
theorem zs_96_82 : zrun zP sv C 96 82 [l0, l1, l2, l3, l4, l5, l6] st h = zrun zP sv C 96 84 [l0, l1, l2, l3, l4, l5, l6] (.int (nI 99) :: st) h := zx_go rfl rfl
theorem zs_96_84 : zrun zP sv C 96 84 [l0, l1, l2, l3, l4, l5, l6] (.int y :: .int x :: st) h = if x = y then zrun zP sv C 96 87 [l0, l1, l2, l3, l4, l5, l6] st h else zrun zP sv C 96 109 [l0, l1, l2, l3, l4, l5, l6] st h := (zx_ic rfl rfl).trans zc1_if
theorem zs_96_87 : zrun zP sv C 96 87 [l0, l1, l2, .val (.ref a), l4, l5, l6] st h = zrun zP sv C 96 88 [l0, l1, l2, .val (.ref a), l4, l5, l6] (.ref a :: st) h := zx_go rfl rfl
theorem zs_96_88 : zrun zP sv C 96 88 [l0, l1, l2, l3, .val (.int x), l5, l6] st h = zrun zP sv C 96 90 [l0, l1, l2, l3, .val (.int x), l5, l6] (.int x :: st) h := zx_go rfl rfl
theorem zs_96_90 : zrun zP sv C 96 90 [l0, l1, l2, .val (.ref a), l4, l5, l6] st h = zrun zP sv C 96 91 [l0, l1, l2, .val (.ref a), l4, l5, l6] (.ref a :: st) h := zx_go rfl rfl
theorem zs_96_91 : zrun zP sv C 96 91 [l0, l1, l2, l3, l4, .val (.int x), l6] st h = zrun zP sv C 96 93 [l0, l1, l2, l3, l4, .val (.int x), l6] (.int x :: st) h := zx_go rfl rfl
theorem zs_96_93 : zrun zP sv C 96 93 [l0, l1, l2, l3, l4, l5, l6] [v1, .ref b, r0, r1] h = zrc (h.1 b) 6 (zbk (C 185 [.ref b, v1] h) (fun v h' => zrun zP sv C 96 96 [l0, l1, l2, l3, l4, l5, l6] (v.toList ++ [r0, r1]) h') (fun E h' => some (.inr E, h'))) := zx_cv (x0 := 6) rfl rfl rfl rfl rfl ⟨Nat.le_of_ble_eq_true rfl, rfl⟩ (fun _ _ => rfl)
theorem zs_96_96 : zrun zP sv C 96 96 [l0, l1, l2, .val (.ref a), l4, l5, l6] st h = zrun zP sv C 96 97 [l0, l1, l2, .val (.ref a), l4, l5, l6] (.ref a :: st) h := zx_go rfl rfl
theorem zs_96_97 : zrun zP sv C 96 97 [l0, l1, l2, l3, l4, l5, .val (.int x)] st h = zrun zP sv C 96 99 [l0, l1, l2, l3, l4, l5, .val (.int x)] (.int x :: st) h := zx_go rfl rfl
theorem zs_96_99 : zrun zP sv C 96 99 [l0, l1, l2, l3, l4, l5, l6] [v1, .ref b, r0, r1, r2] h = zrc (h.1 b) 6 (zbk (C 185 [.ref b, v1] h) (fun v h' => zrun zP sv C 96 102 [l0, l1, l2, l3, l4, l5, l6] (v.toList ++ [r0, r1, r2]) h') (fun E h' => some (.inr E, h'))) := zx_cv (x0 := 6) rfl rfl rfl rfl rfl ⟨Nat.le_of_ble_eq_true rfl, rfl⟩ (fun _ _ => rfl)
theorem zs_96_102 : zrun zP sv C 96 102 [l0, l1, l2, l3, l4, l5, l6] [v2, v1, v0, r0] h = zbk (C 84 [v0, v1, v2] h) (fun v h' => zrun zP sv C 96 105 [l0, l1, l2, l3, l4, l5, l6] (v.toList ++ [r0]) h') (fun E h' => some (.inr E, h')) := zx_cs rfl rfl rfl rfl ⟨Nat.le_of_ble_eq_true rfl, rfl⟩ (fun _ _ => rfl)
theorem zs_96_105 : zrun zP sv C 96 105 [l0, l1, l2, l3, l4, l5, l6] [v1, .ref b] h = zrc (h.1 b) 6 (zbk (C 192 [.ref b, v1] h) (fun v h' => zrun zP sv C 96 108 [l0, l1, l2, l3, l4, l5, l6] (v.toList ++ []) h') (fun E h' => some (.inr E, h'))) := zx_cv (x0 := 6) rfl rfl rfl rfl rfl ⟨Nat.le_of_ble_eq_true rfl, rfl⟩ (fun _ _ => rfl)
theorem zs_96_108 : zrun zP sv C 96 108 [l0, l1, l2, l3, l4, l5, l6] [.int x] h = some (.inl (some (.int x)), h) := zx_end rfl rfl
theorem zs_96_109 : zrun zP sv C 96 109 [l0, l1, l2, l3, .val (.int x), l5, l6] st h = zrun zP sv C 96 111 [l0, l1, l2, l3, .val (.int x), l5, l6] (.int x :: st) h := zx_go rfl rfl
theorem zs_96_111 : zrun zP sv C 96 111 [l0, l1, l2, l3, l4, l5, l6] st h = zrun zP sv C 96 113 [l0, l1, l2, l3, l4, l5, l6] (.int (nI 43) :: st) h := zx_go rfl rfl
theorem zs_96_113 : zrun zP sv C 96 113 [l0, l1, l2, l3, l4, l5, l6] (.int y :: .int x :: st) h = if x = y then zrun zP sv C 96 116 [l0, l1, l2, l3, l4, l5, l6] st h else zrun zP sv C 96 125 [l0, l1, l2, l3, l4, l5, l6] st h := (zx_ic rfl rfl).trans zc1_if
theorem zs_96_116 : zrun zP sv C 96 116 [l0, l1, l2, l3, l4, .val (.int x), l6] st h = zrun zP sv C 96 118 [l0, l1, l2, l3, l4, .val (.int x), l6] (.int x :: st) h := zx_go rfl rfl
theorem zs_96_118 : zrun zP sv C 96 118 [l0, l1, l2, l3, l4, l5, .val (.int x)] st h = zrun zP sv C 96 120 [l0, l1, l2, l3, l4, l5, .val (.int x)] (.int x :: st) h := zx_go rfl rfl
theorem zs_96_120 : zrun zP sv C 96 120 [l0, l1, l2, .val (.ref a), l4, l5, l6] st h = zrun zP sv C 96 121 [l0, l1, l2, .val (.ref a), l4, l5, l6] (.ref a :: st) h := zx_go rfl rfl
theorem zs_96_121 : zrun zP sv C 96 121 [l0, l1, l2, l3, l4, l5, l6] [v2, v1, v0] h = zbk (C 98 [v0, v1, v2] h) (fun v h' => zrun zP sv C 96 124 [l0, l1, l2, l3, l4, l5, l6] (v.toList ++ []) h') (fun E h' => some (.inr E, h')) := zx_cs rfl rfl rfl rfl ⟨Nat.le_of_ble_eq_true rfl, rfl⟩ (fun _ _ => rfl)
theorem zs_96_124 : zrun zP sv C 96 124 [l0, l1, l2, l3, l4, l5, l6] [.int x] h = some (.inl (some (.int x)), h) := zx_end rfl rfl
theorem zs_96_125 : zrun zP sv C 96 125 [l0, l1, l2, l3, .val (.int x), l5, l6] st h = zrun zP sv C 96 127 [l0, l1, l2, l3, .val (.int x), l5, l6] (.int x :: st) h := zx_go rfl rfl
theorem zs_96_127 : zrun zP sv C 96 127 [l0, l1, l2, l3, l4, l5, l6] st h = zrun zP sv C 96 129 [l0, l1, l2, l3, l4, l5, l6] (.int (nI 45) :: st) h := zx_go rfl rfl
theorem zs_96_129 : zrun zP sv C 96 129 [l0, l1, l2, l3, l4, l5, l6] (.int y :: .int x :: st) h = if x = y then zrun zP sv C 96 132 [l0, l1, l2, l3, l4, l5, l6] st h else zrun zP sv C 96 143 [l0, l1, l2, l3, l4, l5, l6] st h := (zx_ic rfl rfl).trans zc1_if
theorem zs_96_132 : zrun zP sv C 96 132 [l0, l1, l2, l3, l4, .val (.int x), l6] st h = zrun zP sv C 96 134 [l0, l1, l2, l3, l4, .val (.int x), l6] (.int x :: st) h := zx_go rfl rfl
theorem zs_96_134 : zrun zP sv C 96 134 [l0, l1, l2, l3, l4, l5, .val (.int x)] st h = zrun zP sv C 96 136 [l0, l1, l2, l3, l4, l5, .val (.int x)] (.int x :: st) h := zx_go rfl rfl
theorem zs_96_136 : zrun zP sv C 96 136 [l0, l1, l2, .val (.ref a), l4, l5, l6] st h = zrun zP sv C 96 137 [l0, l1, l2, .val (.ref a), l4, l5, l6] (.ref a :: st) h := zx_go rfl rfl
theorem zs_96_137 : zrun zP sv C 96 137 [l0, l1, l2, l3, l4, l5, l6] [v2, v1, v0] h = zbk (C 99 [v0, v1, v2] h) (fun v h' => zrun zP sv C 96 140 [l0, l1, l2, l3, l4, l5, l6] (v.toList ++ []) h') (fun E h' => some (.inr E, h')) := zx_cs rfl rfl rfl rfl ⟨Nat.le_of_ble_eq_true rfl, rfl⟩ (fun _ _ => rfl)
theorem zs_96_140 : zrun zP sv C 96 140 [l0, l1, l2, l3, l4, l5, l6] st h = zrun zP sv C 96 151 [l0, l1, l2, l3, l4, l5, l6] st h := zx_go rfl rfl
theorem zs_96_143 : zrun zP sv C 96 143 [l0, l1, l2, l3, l4, .val (.int x), l6] st h = zrun zP sv C 96 145 [l0, l1, l2, l3, l4, .val (.int x), l6] (.int x :: st) h := zx_go rfl rfl
theorem zs_96_145 : zrun zP sv C 96 145 [l0, l1, l2, l3, l4, l5, .val (.int x)] st h = zrun zP sv C 96 147 [l0, l1, l2, l3, l4, l5, .val (.int x)] (.int x :: st) h := zx_go rfl rfl
theorem zs_96_147 : zrun zP sv C 96 147 [l0, l1, l2, .val (.ref a), l4, l5, l6] st h = zrun zP sv C 96 148 [l0, l1, l2, .val (.ref a), l4, l5, l6] (.ref a :: st) h := zx_go rfl rfl
theorem zs_96_148 : zrun zP sv C 96 148 [l0, l1, l2, l3, l4, l5, l6] [v2, v1, v0] h = zbk (C 100 [v0, v1, v2] h) (fun v h' => zrun zP sv C 96 151 [l0, l1, l2, l3, l4, l5, l6] (v.toList ++ []) h') (fun E h' => some (.inr E, h')) := zx_cs rfl rfl rfl rfl ⟨Nat.le_of_ble_eq_true rfl, rfl⟩ (fun _ _ => rfl)
theorem zs_96_151 : zrun zP sv C 96 151 [l0, l1, l2, l3, l4, l5, l6] [.int x] h = some (.inl (some (.int x)), h) := zx_end rfl rfl
theorem zs_97_0 : zrun zP sv C 97 0 [l0, .val (.ref a)] st h = zrun zP sv C 97 1 [l0, .val (.ref a)] (.ref a :: st) h := zx_go rfl rfl
theorem zs_97_1 : zrun zP sv C 97 1 [.val (.int x), l1] st h = zrun zP sv C 97 2 [.val (.int x), l1] (.int x :: st) h := zx_go rfl rfl
theorem zs_97_2 : zrun zP sv C 97 2 [l0, l1] [v1, .ref b] h = zrc (h.1 b) 6 (zbk (C 184 [.ref b, v1] h) (fun v h' => zrun zP sv C 97 5 [l0, l1] (v.toList ++ []) h') (fun E h' => some (.inr E, h'))) := zx_cv (x0 := 6) rfl rfl rfl rfl rfl ⟨Nat.le_of_ble_eq_true rfl, rfl⟩ (fun _ _ => rfl)
theorem zs_97_5 : zrun zP sv C 97 5 [l0, l1] st h = zrun zP sv C 97 7 [l0, l1] (.int (nI 99) :: st) h := zx_go rfl rfl
theorem zs_97_7 : zrun zP sv C 97 7 [l0, l1] (.int y :: .int x :: st) h = if x = y then zrun zP sv C 97 10 [l0, l1] st h else zrun zP sv C 97 26 [l0, l1] st h := (zx_ic rfl rfl).trans zc1_if
theorem zs_97_10 : zrun zP sv C 97 10 [l0, .val (.ref a)] st h = zrun zP sv C 97 11 [l0, .val (.ref a)] (.ref a :: st) h := zx_go rfl rfl
theorem zs_97_11 : zrun zP sv C 97 11 [l0, l1] st h = zrun zP sv C 97 13 [l0, l1] (.int (nI 110) :: st) h := zx_go rfl rfl
theorem zs_97_13 : zrun zP sv C 97 13 [l0, .val (.ref a)] st h = zrun zP sv C 97 14 [l0, .val (.ref a)] (.ref a :: st) h := zx_go rfl rfl
theorem zs_97_14 : zrun zP sv C 97 14 [.val (.int x), l1] st h = zrun zP sv C 97 15 [.val (.int x), l1] (.int x :: st) h := zx_go rfl rfl
theorem zs_97_15 : zrun zP sv C 97 15 [l0, l1] [v1, .ref b, r0, r1] h = zrc (h.1 b) 6 (zbk (C 185 [.ref b, v1] h) (fun v h' => zrun zP sv C 97 18 [l0, l1] (v.toList ++ [r0, r1]) h') (fun E h' => some (.inr E, h'))) := zx_cv (x0 := 6) rfl rfl rfl rfl rfl ⟨Nat.le_of_ble_eq_true rfl, rfl⟩ (fun _ _ => rfl)
theorem zs_97_18 : zrun zP sv C 97 18 [l0, l1] st h = zrun zP sv C 97 19 [l0, l1] (.int 0 :: st) h := zx_go rfl rfl
theorem zs_97_19 : zrun zP sv C 97 19 [l0, l1] [v2, v1, v0, r0] h = zbk (C 84 [v0, v1, v2] h) (fun v h' => zrun zP sv C 97 22 [l0, l1] (v.toList ++ [r0]) h') (fun E h' => some (.inr E, h')) := zx_cs rfl rfl rfl rfl ⟨Nat.le_of_ble_eq_true rfl, rfl⟩ (fun _ _ => rfl)
theorem zs_97_22 : zrun zP sv C 97 22 [l0, l1] [v1, .ref b] h = zrc (h.1 b) 6 (zbk (C 192 [.ref b, v1] h) (fun v h' => zrun zP sv C 97 25 [l0, l1] (v.toList ++ []) h') (fun E h' => some (.inr E, h'))) := zx_cv (x0 := 6) rfl rfl rfl rfl rfl ⟨Nat.le_of_ble_eq_true rfl, rfl⟩ (fun _ _ => rfl)
theorem zs_97_25 : zrun zP sv C 97 25 [l0, l1] [.int x] h = some (.inl (some (.int x)), h) := zx_end rfl rfl
theorem zs_97_26 : zrun zP sv C 97 26 [l0, .val (.ref a)] st h = zrun zP sv C 97 27 [l0, .val (.ref a)] (.ref a :: st) h := zx_go rfl rfl
theorem zs_97_27 : zrun zP sv C 97 27 [.val (.int x), l1] st h = zrun zP sv C 97 28 [.val (.int x), l1] (.int x :: st) h := zx_go rfl rfl
theorem zs_97_28 : zrun zP sv C 97 28 [l0, l1] [v1, .ref b] h = zrc (h.1 b) 6 (zbk (C 184 [.ref b, v1] h) (fun v h' => zrun zP sv C 97 31 [l0, l1] (v.toList ++ []) h') (fun E h' => some (.inr E, h'))) := zx_cv (x0 := 6) rfl rfl rfl rfl rfl ⟨Nat.le_of_ble_eq_true rfl, rfl⟩ (fun _ _ => rfl)
theorem zs_97_31 : zrun zP sv C 97 31 [l0, l1] st h = zrun zP sv C 97 33 [l0, l1] (.int (nI 110) :: st) h := zx_go rfl rfl
theorem zs_97_33 : zrun zP sv C 97 33 [l0, l1] (.int y :: .int x :: st) h = if x = y then zrun zP sv C 97 36 [l0, l1] st h else zrun zP sv C 97 44 [l0, l1] st h := (zx_ic rfl rfl).trans zc1_if
theorem zs_97_36 : zrun zP sv C 97 36 [l0, .val (.ref a)] st h = zrun zP sv C 97 37 [l0, .val (.ref a)] (.ref a :: st) h := zx_go rfl rfl
theorem zs_97_37 : zrun zP sv C 97 37 [.val (.int x), l1] st h = zrun zP sv C 97 38 [.val (.int x), l1] (.int x :: st) h := zx_go rfl rfl
theorem zs_97_38 : zrun zP sv C 97 38 [l0, l1] [v1, .ref b] h = zrc (h.1 b) 6 (zbk (C 186 [.ref b, v1] h) (fun v h' => zrun zP sv C 97 41 [l0, l1] (v.toList ++ []) h') (fun E h' => some (.inr E, h'))) := zx_cv (x0 := 6) rfl rfl rfl rfl rfl ⟨Nat.le_of_ble_eq_true rfl, rfl⟩ (fun _ _ => rfl)
theorem zs_97_41 : zrun zP sv C 97 41 [l0, l1] st h = zrun zP sv C 97 49 [l0, l1] st h := zx_go rfl rfl
theorem zs_97_44 : zrun zP sv C 97 44 [l0, .val (.ref a)] st h = zrun zP sv C 97 45 [l0, .val (.ref a)] (.ref a :: st) h := zx_go rfl rfl
theorem zs_97_45 : zrun zP sv C 97 45 [.val (.int x), l1] st h = zrun zP sv C 97 46 [.val (.int x), l1] (.int x :: st) h := zx_go rfl rfl
theorem zs_97_46 : zrun zP sv C 97 46 [l0, l1] [v1, .ref b] h = zrc (h.1 b) 6 (zbk (C 193 [.ref b, v1] h) (fun v h' => zrun zP sv C 97 49 [l0, l1] (v.toList ++ []) h') (fun E h' => some (.inr E, h'))) := zx_cv (x0 := 6) rfl rfl rfl rfl rfl ⟨Nat.le_of_ble_eq_true rfl, rfl⟩ (fun _ _ => rfl)
theorem zs_97_49 : zrun zP sv C 97 49 [l0, l1] [.int x] h = some (.inl (some (.int x)), h) := zx_end rfl rfl
theorem zs_98_0 : zrun zP sv C 98 0 [l0, l1, .val (.ref a)] st h = zrun zP sv C 98 1 [l0, l1, .val (.ref a)] (.ref a :: st) h := zx_go rfl rfl
theorem zs_98_1 : zrun zP sv C 98 1 [.val (.int x), l1, l2] st h = zrun zP sv C 98 2 [.val (.int x), l1, l2] (.int x :: st) h := zx_go rfl rfl
theorem zs_98_2 : zrun zP sv C 98 2 [l0, l1, l2] st h = zrun zP sv C 98 3 [l0, l1, l2] (.int 0 :: st) h := zx_go rfl rfl
theorem zs_98_3 : zrun zP sv C 98 3 [l0, l1, l2] [v2, v1, .ref b] h = zrc (h.1 b) 6 (zbk (C 189 [.ref b, v1, v2] h) (fun v h' => zrun zP sv C 98 6 [l0, l1, l2] (v.toList ++ []) h') (fun E h' => some (.inr E, h'))) := zx_cv (x0 := 6) rfl rfl rfl rfl rfl ⟨Nat.le_of_ble_eq_true rfl, rfl⟩ (fun _ _ => rfl)
theorem zs_98_6 : zrun zP sv C 98 6 [l0, l1, l2] (.int x :: st) h = if x = 0 then zrun zP sv C 98 11 [l0, l1, l2] st h else zrun zP sv C 98 9 [l0, l1, l2] st h := (zx_if rfl rfl).trans zc0_if
theorem zs_98_9 : zrun zP sv C 98 9 [l0, .val (.int x), l2] st h = zrun zP sv C 98 10 [l0, .val (.int x), l2] (.int x :: st) h := zx_go rfl rfl
theorem zs_98_10 : zrun zP sv C 98 10 [l0, l1, l2] [.int x] h = some (.inl (some (.int x)), h) := zx_end rfl rfl
theorem zs_98_11 : zrun zP sv C 98 11 [l0, l1, .val (.ref a)] st h = zrun zP sv C 98 12 [l0, l1, .val (.ref a)] (.ref a :: st) h := zx_go rfl rfl
theorem zs_98_12 : zrun zP sv C 98 12 [l0, .val (.int x), l2] st h = zrun zP sv C 98 13 [l0, .val (.int x), l2] (.int x :: st) h := zx_go rfl rfl
theorem zs_98_13 : zrun zP sv C 98 13 [l0, l1, l2] st h = zrun zP sv C 98 14 [l0, l1, l2] (.int 0 :: st) h := zx_go rfl rfl
theorem zs_98_14 : zrun zP sv C 98 14 [l0, l1, l2] [v2, v1, .ref b] h = zrc (h.1 b) 6 (zbk (C 189 [.ref b, v1, v2] h) (fun v h' => zrun zP sv C 98 17 [l0, l1, l2] (v.toList ++ []) h') (fun E h' => some (.inr E, h'))) := zx_cv (x0 := 6) rfl rfl rfl rfl rfl ⟨Nat.le_of_ble_eq_true rfl, rfl⟩ (fun _ _ => rfl)
theorem zs_98_17 : zrun zP sv C 98 17 [l0, l1, l2] (.int x :: st) h = if x = 0 then zrun zP sv C 98 24 [l0, l1, l2] st h else zrun zP sv C 98 20 [l0, l1, l2] st h := (zx_if rfl rfl).trans zc0_if
theorem zs_98_20 : zrun zP sv C 98 20 [.val (.int x), l1, l2] st h = zrun zP sv C 98 21 [.val (.int x), l1, l2] (.int x :: st) h := zx_go rfl rfl
theorem zs_98_21 : zrun zP sv C 98 21 [l0, l1, l2] st h = zrun zP sv C 98 32 [l0, l1, l2] st h := zx_go rfl rfl
theorem zs_98_24 : zrun zP sv C 98 24 [l0, l1, .val (.ref a)] st h = zrun zP sv C 98 25 [l0, l1, .val (.ref a)] (.ref a :: st) h := zx_go rfl rfl
theorem zs_98_25 : zrun zP sv C 98 25 [l0, l1, l2] st h = zrun zP sv C 98 27 [l0, l1, l2] (.int (nI 43) :: st) h := zx_go rfl rfl
theorem zs_98_27 : zrun zP sv C 98 27 [.val (.int x), l1, l2] st h = zrun zP sv C 98 28 [.val (.int x), l1, l2] (.int x :: st) h := zx_go rfl rfl
theorem zs_98_28 : zrun zP sv C 98 28 [l0, .val (.int x), l2] st h = zrun zP sv C 98 29 [l0, .val (.int x), l2] (.int x :: st) h := zx_go rfl rfl
theorem zs_98_29 : zrun zP sv C 98 29 [l0, l1, l2] [v3, v2, v1, .ref b] h = zrc (h.1 b) 6 (zbk (C 194 [.ref b, v1, v2, v3] h) (fun v h' => zrun zP sv C 98 32 [l0, l1, l2] (v.toList ++ []) h') (fun E h' => some (.inr E, h'))) := zx_cv (x0 := 6) rfl rfl rfl rfl rfl ⟨Nat.le_of_ble_eq_true rfl, rfl⟩ (fun _ _ => rfl)
theorem zs_98_32 : zrun zP sv C 98 32 [l0, l1, l2] [.int x] h = some (.inl (some (.int x)), h) := zx_end rfl rfl
theorem zs_99_0 : zrun zP sv C 99 0 [l0, l1, .val (.ref a)] st h = zrun zP sv C 99 1 [l0, l1, .val (.ref a)] (.ref a :: st) h := zx_go rfl rfl
theorem zs_99_1 : zrun zP sv C 99 1 [l0, .val (.int x), l2] st h = zrun zP sv C 99 2 [l0, .val (.int x), l2] (.int x :: st) h := zx_go rfl rfl
theorem zs_99_2 : zrun zP sv C 99 2 [l0, l1, l2] st h = zrun zP sv C 99 3 [l0, l1, l2] (.int 0 :: st) h := zx_go rfl rfl
theorem zs_99_3 : zrun zP sv C 99 3 [l0, l1, l2] [v2, v1, .ref b] h = zrc (h.1 b) 6 (zbk (C 189 [.ref b, v1, v2] h) (fun v h' => zrun zP sv C 99 6 [l0, l1, l2] (v.toList ++ []) h') (fun E h' => some (.inr E, h'))) := zx_cv (x0 := 6) rfl rfl rfl rfl rfl ⟨Nat.le_of_ble_eq_true rfl, rfl⟩ (fun _ _ => rfl)
theorem zs_99_6 : zrun zP sv C 99 6 [l0, l1, l2] (.int x :: st) h = if x = 0 then zrun zP sv C 99 11 [l0, l1, l2] st h else zrun zP sv C 99 9 [l0, l1, l2] st h := (zx_if rfl rfl).trans zc0_if
theorem zs_99_9 : zrun zP sv C 99 9 [.val (.int x), l1, l2] st h = zrun zP sv C 99 10 [.val (.int x), l1, l2] (.int x :: st) h := zx_go rfl rfl
theorem zs_99_10 : zrun zP sv C 99 10 [l0, l1, l2] [.int x] h = some (.inl (some (.int x)), h) := zx_end rfl rfl
theorem zs_99_11 : zrun zP sv C 99 11 [l0, l1, .val (.ref a)] st h = zrun zP sv C 99 12 [l0, l1, .val (.ref a)] (.ref a :: st) h := zx_go rfl rfl
theorem zs_99_12 : zrun zP sv C 99 12 [.val (.int x), l1, l2] st h = zrun zP sv C 99 13 [.val (.int x), l1, l2] (.int x :: st) h := zx_go rfl rfl
theorem zs_99_13 : zrun zP sv C 99 13 [l0, l1, l2] st h = zrun zP sv C 99 14 [l0, l1, l2] (.int 0 :: st) h := zx_go rfl rfl
theorem zs_99_14 : zrun zP sv C 99 14 [l0, l1, l2] [v2, v1, .ref b] h = zrc (h.1 b) 6 (zbk (C 189 [.ref b, v1, v2] h) (fun v h' => zrun zP sv C 99 17 [l0, l1, l2] (v.toList ++ []) h') (fun E h' => some (.inr E, h'))) := zx_cv (x0 := 6) rfl rfl rfl rfl rfl ⟨Nat.le_of_ble_eq_true rfl, rfl⟩ (fun _ _ => rfl)
theorem zs_99_17 : zrun zP sv C 99 17 [l0, l1, l2] (.int x :: st) h = if x = 0 then zrun zP sv C 99 44 [l0, l1, l2] st h else zrun zP sv C 99 20 [l0, l1, l2] st h := (zx_if rfl rfl).trans zc0_if
theorem zs_99_20 : zrun zP sv C 99 20 [l0, l1, .val (.ref a)] st h = zrun zP sv C 99 21 [l0, l1, .val (.ref a)] (.ref a :: st) h := zx_go rfl rfl
theorem zs_99_21 : zrun zP sv C 99 21 [l0, .val (.int x), l2] st h = zrun zP sv C 99 22 [l0, .val (.int x), l2] (.int x :: st) h := zx_go rfl rfl
theorem zs_99_22 : zrun zP sv C 99 22 [l0, l1, l2] [v1, .ref b] h = zrc (h.1 b) 6 (zbk (C 184 [.ref b, v1] h) (fun v h' => zrun zP sv C 99 25 [l0, l1, l2] (v.toList ++ []) h') (fun E h' => some (.inr E, h'))) := zx_cv (x0 := 6) rfl rfl rfl rfl rfl ⟨Nat.le_of_ble_eq_true rfl, rfl⟩ (fun _ _ => rfl)
theorem zs_99_25 : zrun zP sv C 99 25 [l0, l1, l2] st h = zrun zP sv C 99 27 [l0, l1, l2] (.int (nI 110) :: st) h := zx_go rfl rfl
theorem zs_99_27 : zrun zP sv C 99 27 [l0, l1, l2] (.int y :: .int x :: st) h = if x = y then zrun zP sv C 99 30 [l0, l1, l2] st h else zrun zP sv C 99 38 [l0, l1, l2] st h := (zx_ic rfl rfl).trans zc1_if
theorem zs_99_30 : zrun zP sv C 99 30 [l0, l1, .val (.ref a)] st h = zrun zP sv C 99 31 [l0, l1, .val (.ref a)] (.ref a :: st) h := zx_go rfl rfl
theorem zs_99_31 : zrun zP sv C 99 31 [l0, .val (.int x), l2] st h = zrun zP sv C 99 32 [l0, .val (.int x), l2] (.int x :: st) h := zx_go rfl rfl
theorem zs_99_32 : zrun zP sv C 99 32 [l0, l1, l2] [v1, .ref b] h = zrc (h.1 b) 6 (zbk (C 186 [.ref b, v1] h) (fun v h' => zrun zP sv C 99 35 [l0, l1, l2] (v.toList ++ []) h') (fun E h' => some (.inr E, h'))) := zx_cv (x0 := 6) rfl rfl rfl rfl rfl ⟨Nat.le_of_ble_eq_true rfl, rfl⟩ (fun _ _ => rfl)
theorem zs_99_35 : zrun zP sv C 99 35 [l0, l1, l2] st h = zrun zP sv C 99 43 [l0, l1, l2] st h := zx_go rfl rfl
theorem zs_99_38 : zrun zP sv C 99 38 [l0, l1, .val (.ref a)] st h = zrun zP sv C 99 39 [l0, l1, .val (.ref a)] (.ref a :: st) h := zx_go rfl rfl
theorem zs_99_39 : zrun zP sv C 99 39 [l0, .val (.int x), l2] st h = zrun zP sv C 99 40 [l0, .val (.int x), l2] (.int x :: st) h := zx_go rfl rfl
theorem zs_99_40 : zrun zP sv C 99 40 [l0, l1, l2] [v1, .ref b] h = zrc (h.1 b) 6 (zbk (C 193 [.ref b, v1] h) (fun v h' => zrun zP sv C 99 43 [l0, l1, l2] (v.toList ++ []) h') (fun E h' => some (.inr E, h'))) := zx_cv (x0 := 6) rfl rfl rfl rfl rfl ⟨Nat.le_of_ble_eq_true rfl, rfl⟩ (fun _ _ => rfl)
theorem zs_99_43 : zrun zP sv C 99 43 [l0, l1, l2] [.int x] h = some (.inl (some (.int x)), h) := zx_end rfl rfl
theorem zs_99_44 : zrun zP sv C 99 44 [l0, l1, .val (.ref a)] st h = zrun zP sv C 99 45 [l0, l1, .val (.ref a)] (.ref a :: st) h := zx_go rfl rfl
theorem zs_99_45 : zrun zP sv C 99 45 [.val (.int x), l1, l2] st h = zrun zP sv C 99 46 [.val (.int x), l1, l2] (.int x :: st) h := zx_go rfl rfl
theorem zs_99_46 : zrun zP sv C 99 46 [l0, l1, .val (.ref a)] st h = zrun zP sv C 99 47 [l0, l1, .val (.ref a)] (.ref a :: st) h := zx_go rfl rfl
theorem zs_99_47 : zrun zP sv C 99 47 [l0, .val (.int x), l2] st h = zrun zP sv C 99 48 [l0, .val (.int x), l2] (.int x :: st) h := zx_go rfl rfl
theorem zs_99_48 : zrun zP sv C 99 48 [l0, l1, l2] st h = zrun zP sv C 99 49 [l0, l1, l2] (.int (nI 1) :: st) h := zx_go rfl rfl
theorem zs_99_49 : zrun zP sv C 99 49 [l0, l1, l2] [v4, v3, v2, v1, v0] h = zbk (C 85 [v0, v1, v2, v3, v4] h) (fun v h' => zrun zP sv C 99 52 [l0, l1, l2] (v.toList ++ []) h') (fun E h' => some (.inr E, h')) := zx_cs rfl rfl rfl rfl ⟨Nat.le_of_ble_eq_true rfl, rfl⟩ (fun _ _ => rfl)
theorem zs_99_52 : zrun zP sv C 99 52 [l0, l1, l2] (.int x :: st) h = if x = 0 then zrun zP sv C 99 61 [l0, l1, l2] st h else zrun zP sv C 99 55 [l0, l1, l2] st h := (zx_if rfl rfl).trans zc0_if
theorem zs_99_55 : zrun zP sv C 99 55 [l0, l1, .val (.ref a)] st h = zrun zP sv C 99 56 [l0, l1, .val (.ref a)] (.ref a :: st) h := zx_go rfl rfl
theorem zs_99_56 : zrun zP sv C 99 56 [l0, l1, l2] st h = zrun zP sv C 99 57 [l0, l1, l2] (.int 0 :: st) h := zx_go rfl rfl
theorem zs_99_57 : zrun zP sv C 99 57 [l0, l1, l2] [v1, .ref b] h = zrc (h.1 b) 6 (zbk (C 192 [.ref b, v1] h) (fun v h' => zrun zP sv C 99 60 [l0, l1, l2] (v.toList ++ []) h') (fun E h' => some (.inr E, h'))) := zx_cv (x0 := 6) rfl rfl rfl rfl rfl ⟨Nat.le_of_ble_eq_true rfl, rfl⟩ (fun _ _ => rfl)
theorem zs_99_60 : zrun zP sv C 99 60 [l0, l1, l2] [.int x] h = some (.inl (some (.int x)), h) := zx_end rfl rfl
theorem zs_99_61 : zrun zP sv C 99 61 [l0, l1, .val (.ref a)] st h = zrun zP sv C 99 62 [l0, l1, .val (.ref a)] (.ref a :: st) h := zx_go rfl rfl
theorem zs_99_62 : zrun zP sv C 99 62 [l0, l1, l2] st h = zrun zP sv C 99 64 [l0, l1, l2] (.int (nI 45) :: st) h := zx_go rfl rfl
theorem zs_99_64 : zrun zP sv C 99 64 [.val (.int x), l1, l2] st h = zrun zP sv C 99 65 [.val (.int x), l1, l2] (.int x :: st) h := zx_go rfl rfl
theorem zs_99_65 : zrun zP sv C 99 65 [l0, .val (.int x), l2] st h = zrun zP sv C 99 66 [l0, .val (.int x), l2] (.int x :: st) h := zx_go rfl rfl
theorem zs_99_66 : zrun zP sv C 99 66 [l0, l1, l2] [v3, v2, v1, .ref b] h = zrc (h.1 b) 6 (zbk (C 194 [.ref b, v1, v2, v3] h) (fun v h' => zrun zP sv C 99 69 [l0, l1, l2] (v.toList ++ []) h') (fun E h' => some (.inr E, h'))) := zx_cv (x0 := 6) rfl rfl rfl rfl rfl ⟨Nat.le_of_ble_eq_true rfl, rfl⟩ (fun _ _ => rfl)
theorem zs_99_69 : zrun zP sv C 99 69 [l0, l1, l2] [.int x] h = some (.inl (some (.int x)), h) := zx_end rfl rfl
theorem zs_100_0 : zrun zP sv C 100 0 [l0, l1, .val (.ref a)] st h = zrun zP sv C 100 1 [l0, l1, .val (.ref a)] (.ref a :: st) h := zx_go rfl rfl
theorem zs_100_1 : zrun zP sv C 100 1 [.val (.int x), l1, l2] st h = zrun zP sv C 100 2 [.val (.int x), l1, l2] (.int x :: st) h := zx_go rfl rfl
theorem zs_100_2 : zrun zP sv C 100 2 [l0, l1, l2] st h = zrun zP sv C 100 3 [l0, l1, l2] (.int 0 :: st) h := zx_go rfl rfl
theorem zs_100_3 : zrun zP sv C 100 3 [l0, l1, l2] [v2, v1, .ref b] h = zrc (h.1 b) 6 (zbk (C 189 [.ref b, v1, v2] h) (fun v h' => zrun zP sv C 100 6 [l0, l1, l2] (v.toList ++ []) h') (fun E h' => some (.inr E, h'))) := zx_cv (x0 := 6) rfl rfl rfl rfl rfl ⟨Nat.le_of_ble_eq_true rfl, rfl⟩ (fun _ _ => rfl)
theorem zs_100_6 : zrun zP sv C 100 6 [l0, l1, l2] (.int x :: st) h = if x = 0 then zrun zP sv C 100 9 [l0, l1, l2] st h else zrun zP sv C 100 18 [l0, l1, l2] st h := (zx_if rfl rfl).trans zc1_if
theorem zs_100_9 : zrun zP sv C 100 9 [l0, l1, .val (.ref a)] st h = zrun zP sv C 100 10 [l0, l1, .val (.ref a)] (.ref a :: st) h := zx_go rfl rfl
theorem zs_100_10 : zrun zP sv C 100 10 [l0, .val (.int x), l2] st h = zrun zP sv C 100 11 [l0, .val (.int x), l2] (.int x :: st) h := zx_go rfl rfl
theorem zs_100_11 : zrun zP sv C 100 11 [l0, l1, l2] st h = zrun zP sv C 100 12 [l0, l1, l2] (.int 0 :: st) h := zx_go rfl rfl
theorem zs_100_12 : zrun zP sv C 100 12 [l0, l1, l2] [v2, v1, .ref b] h = zrc (h.1 b) 6 (zbk (C 189 [.ref b, v1, v2] h) (fun v h' => zrun zP sv C 100 15 [l0, l1, l2] (v.toList ++ []) h') (fun E h' => some (.inr E, h'))) := zx_cv (x0 := 6) rfl rfl rfl rfl rfl ⟨Nat.le_of_ble_eq_true rfl, rfl⟩ (fun _ _ => rfl)
theorem zs_100_15 : zrun zP sv C 100 15 [l0, l1, l2] (.int x :: st) h = if x = 0 then zrun zP sv C 100 24 [l0, l1, l2] st h else zrun zP sv C 100 18 [l0, l1, l2] st h := (zx_if rfl rfl).trans zc0_if
theorem zs_100_18 : zrun zP sv C 100 18 [l0, l1, .val (.ref a)] st h = zrun zP sv C 100 19 [l0, l1, .val (.ref a)] (.ref a :: st) h := zx_go rfl rfl
theorem zs_100_19 : zrun zP sv C 100 19 [l0, l1, l2] st h = zrun zP sv C 100 20 [l0, l1, l2] (.int 0 :: st) h := zx_go rfl rfl
theorem zs_100_20 : zrun zP sv C 100 20 [l0, l1, l2] [v1, .ref b] h = zrc (h.1 b) 6 (zbk (C 192 [.ref b, v1] h) (fun v h' => zrun zP sv C 100 23 [l0, l1, l2] (v.toList ++ []) h') (fun E h' => some (.inr E, h'))) := zx_cv (x0 := 6) rfl rfl rfl rfl rfl ⟨Nat.le_of_ble_eq_true rfl, rfl⟩ (fun _ _ => rfl)
theorem zs_100_23 : zrun zP sv C 100 23 [l0, l1, l2] [.int x] h = some (.inl (some (.int x)), h) := zx_end rfl rfl
theorem zs_100_24 : zrun zP sv C 100 24 [l0, l1, .val (.ref a)] st h = zrun zP sv C 100 25 [l0, l1, .val (.ref a)] (.ref a :: st) h := zx_go rfl rfl
theorem zs_100_25 : zrun zP sv C 100 25 [.val (.int x), l1, l2] st h = zrun zP sv C 100 26 [.val (.int x), l1, l2] (.int x :: st) h := zx_go rfl rfl
theorem zs_100_26 : zrun zP sv C 100 26 [l0, l1, l2] st h = zrun zP sv C 100 27 [l0, l1, l2] (.int (nI 1) :: st) h := zx_go rfl rfl
theorem zs_100_27 : zrun zP sv C 100 27 [l0, l1, l2] [v2, v1, .ref b] h = zrc (h.1 b) 6 (zbk (C 189 [.ref b, v1, v2] h) (fun v h' => zrun zP sv C 100 30 [l0, l1, l2] (v.toList ++ []) h') (fun E h' => some (.inr E, h'))) := zx_cv (x0 := 6) rfl rfl rfl rfl rfl ⟨Nat.le_of_ble_eq_true rfl, rfl⟩ (fun _ _ => rfl)
theorem zs_100_30 : zrun zP sv C 100 30 [l0, l1, l2] (.int x :: st) h = if x = 0 then zrun zP sv C 100 35 [l0, l1, l2] st h else zrun zP sv C 100 33 [l0, l1, l2] st h := (zx_if rfl rfl).trans zc0_if
theorem zs_100_33 : zrun zP sv C 100 33 [l0, .val (.int x), l2] st h = zrun zP sv C 100 34 [l0, .val (.int x), l2] (.int x :: st) h := zx_go rfl rfl
theorem zs_100_34 : zrun zP sv C 100 34 [l0, l1, l2] [.int x] h = some (.inl (some (.int x)), h) := zx_end rfl rfl
theorem zs_100_35 : zrun zP sv C 100 35 [l0, l1, .val (.ref a)] st h = zrun zP sv C 100 36 [l0, l1, .val (.ref a)] (.ref a :: st) h := zx_go rfl rfl
theorem zs_100_36 : zrun zP sv C 100 36 [l0, .val (.int x), l2] st h = zrun zP sv C 100 37 [l0, .val (.int x), l2] (.int x :: st) h := zx_go rfl rfl
theorem zs_100_37 : zrun zP sv C 100 37 [l0, l1, l2] st h = zrun zP sv C 100 38 [l0, l1, l2] (.int (nI 1) :: st) h := zx_go rfl rfl
theorem zs_100_38 : zrun zP sv C 100 38 [l0, l1, l2] [v2, v1, .ref b] h = zrc (h.1 b) 6 (zbk (C 189 [.ref b, v1, v2] h) (fun v h' => zrun zP sv C 100 41 [l0, l1, l2] (v.toList ++ []) h') (fun E h' => some (.inr E, h'))) := zx_cv (x0 := 6) rfl rfl rfl rfl rfl ⟨Nat.le_of_ble_eq_true rfl, rfl⟩ (fun _ _ => rfl)
theorem zs_100_41 : zrun zP sv C 100 41 [l0, l1, l2] (.int x :: st) h = if x = 0 then zrun zP sv C 100 48 [l0, l1, l2] st h else zrun zP sv C 100 44 [l0, l1, l2] st h := (zx_if rfl rfl).trans zc0_if
theorem zs_100_44 : zrun zP sv C 100 44 [.val (.int x), l1, l2] st h = zrun zP sv C 100 45 [.val (.int x), l1, l2] (.int x :: st) h := zx_go rfl rfl
theorem zs_100_45 : zrun zP sv C 100 45 [l0, l1, l2] st h = zrun zP sv C 100 56 [l0, l1, l2] st h := zx_go rfl rfl
theorem zs_100_48 : zrun zP sv C 100 48 [l0, l1, .val (.ref a)] st h = zrun zP sv C 100 49 [l0, l1, .val (.ref a)] (.ref a :: st) h := zx_go rfl rfl
theorem zs_100_49 : zrun zP sv C 100 49 [l0, l1, l2] st h = zrun zP sv C 100 51 [l0, l1, l2] (.int (nI 42) :: st) h := zx_go rfl rfl
theorem zs_100_51 : zrun zP sv C 100 51 [.val (.int x), l1, l2] st h = zrun zP sv C 100 52 [.val (.int x), l1, l2] (.int x :: st) h := zx_go rfl rfl
theorem zs_100_52 : zrun zP sv C 100 52 [l0, .val (.int x), l2] st h = zrun zP sv C 100 53 [l0, .val (.int x), l2] (.int x :: st) h := zx_go rfl rfl
theorem zs_100_53 : zrun zP sv C 100 53 [l0, l1, l2] [v3, v2, v1, .ref b] h = zrc (h.1 b) 6 (zbk (C 194 [.ref b, v1, v2, v3] h) (fun v h' => zrun zP sv C 100 56 [l0, l1, l2] (v.toList ++ []) h') (fun E h' => some (.inr E, h'))) := zx_cv (x0 := 6) rfl rfl rfl rfl rfl ⟨Nat.le_of_ble_eq_true rfl, rfl⟩ (fun _ _ => rfl)
theorem zs_100_56 : zrun zP sv C 100 56 [l0, l1, l2] [.int x] h = some (.inl (some (.int x)), h) := zx_end rfl rfl
theorem zs_101_0 : zrun zP sv C 101 0 [.val (.ref a)] st h = zrun zP sv C 101 1 [.val (.ref a)] (.ref a :: st) h := zx_go rfl rfl
theorem zs_101_1 : zrun zP sv C 101 1 [l0] [.ref a] h = zrun zP sv C 101 4 [l0] [] h := zx_go rfl rfl
theorem zs_101_4 : zrun zP sv C 101 4 [.val (.ref a)] st h = zrun zP sv C 101 5 [.val (.ref a)] (.ref a :: st) h := zx_go rfl rfl
theorem zs_101_5 : zrun zP sv C 101 5 [l0] st h = zrun zP sv C 101 8 [l0] (.ref h.2.1 :: st) (znew h (10, [.null, .null, .null]) 3) := zx_go rfl rfl
theorem zs_101_8 : zrun zP sv C 101 8 [l0] (.ref a :: st) h = zrun zP sv C 101 9 [l0] (.ref a :: .ref a :: st) h := zx_go rfl rfl
theorem zs_101_9 : zrun zP sv C 101 9 [l0] [.ref b, r0, r1] h = zrc (h.1 b) 10 (zbk (C 116 [.ref b] h) (fun v h' => zrun zP sv C 101 12 [l0] (v.toList ++ [r0, r1]) h') (fun E h' => some (.inr E, h'))) := zx_cv (x0 := 10) rfl rfl rfl rfl rfl ⟨Nat.le_of_ble_eq_true rfl, rfl⟩ (fun _ _ => rfl)
theorem zs_101_12 : zrun zP sv C 101 12 [l0] (.ref b :: .ref a :: st) h = zpfd (h.1 a) 12 6 4 (.ref b) (fun c => zrun zP sv C 101 15 [l0] st (zup h a c)) := zx_putf (x0 := 4) rfl rfl
theorem zs_101_15 : zrun zP sv C 101 15 [.val (.ref a)] st h = zrun zP sv C 101 16 [.val (.ref a)] (.ref a :: st) h := zx_go rfl rfl
theorem zs_101_16 : zrun zP sv C 101 16 [l0] st h = zrun zP sv C 101 19 [l0] (.ref h.2.1 :: st) (znew h (4, [.null]) 1) := zx_go rfl rfl
theorem zs_101_19 : zrun zP sv C 101 19 [l0] (.ref a :: st) h = zrun zP sv C 101 20 [l0] (.ref a :: .ref a :: st) h := zx_go rfl rfl
theorem zs_101_20 : zrun zP sv C 101 20 [l0] st h = zrun zP sv C 101 22 [l0] (.int (nI 62) :: st) h := zx_go rfl rfl
theorem zs_101_22 : zrun zP sv C 101 22 [l0] [v1, .ref b, r0, r1] h = zrc (h.1 b) 4 (zbk (C 164 [.ref b, v1] h) (fun v h' => zrun zP sv C 101 25 [l0] (v.toList ++ [r0, r1]) h') (fun E h' => some (.inr E, h'))) := zx_cv (x0 := 4) rfl rfl rfl rfl rfl ⟨Nat.le_of_ble_eq_true rfl, rfl⟩ (fun _ _ => rfl)
theorem zs_101_25 : zrun zP sv C 101 25 [l0] (.ref b :: .ref a :: st) h = zpfd (h.1 a) 12 0 4 (.ref b) (fun c => zrun zP sv C 101 28 [l0] st (zup h a c)) := zx_putf (x0 := 4) rfl rfl
theorem zs_101_28 : zrun zP sv C 101 28 [.val (.ref a)] st h = zrun zP sv C 101 29 [.val (.ref a)] (.ref a :: st) h := zx_go rfl rfl
theorem zs_101_29 : zrun zP sv C 101 29 [l0] st h = zrun zP sv C 101 32 [l0] (.ref h.2.1 :: st) (znew h (4, [.null]) 1) := zx_go rfl rfl
theorem zs_101_32 : zrun zP sv C 101 32 [l0] (.ref a :: st) h = zrun zP sv C 101 33 [l0] (.ref a :: .ref a :: st) h := zx_go rfl rfl
theorem zs_101_33 : zrun zP sv C 101 33 [l0] st h = zrun zP sv C 101 35 [l0] (.int (nI 62) :: st) h := zx_go rfl rfl
theorem zs_101_35 : zrun zP sv C 101 35 [l0] [v1, .ref b, r0, r1] h = zrc (h.1 b) 4 (zbk (C 164 [.ref b, v1] h) (fun v h' => zrun zP sv C 101 38 [l0] (v.toList ++ [r0, r1]) h') (fun E h' => some (.inr E, h'))) := zx_cv (x0 := 4) rfl rfl rfl rfl rfl ⟨Nat.le_of_ble_eq_true rfl, rfl⟩ (fun _ _ => rfl)
theorem zs_101_38 : zrun zP sv C 101 38 [l0] (.ref b :: .ref a :: st) h = zpfd (h.1 a) 12 1 4 (.ref b) (fun c => zrun zP sv C 101 41 [l0] st (zup h a c)) := zx_putf (x0 := 4) rfl rfl
theorem zs_101_41 : zrun zP sv C 101 41 [.val (.ref a)] st h = zrun zP sv C 101 42 [.val (.ref a)] (.ref a :: st) h := zx_go rfl rfl
theorem zs_101_42 : zrun zP sv C 101 42 [l0] st h = zrun zP sv C 101 45 [l0] (.ref h.2.1 :: st) (znew h (4, [.null]) 1) := zx_go rfl rfl
theorem zs_101_45 : zrun zP sv C 101 45 [l0] (.ref a :: st) h = zrun zP sv C 101 46 [l0] (.ref a :: .ref a :: st) h := zx_go rfl rfl
theorem zs_101_46 : zrun zP sv C 101 46 [l0] st h = zrun zP sv C 101 48 [l0] (.int (nI 62) :: st) h := zx_go rfl rfl
theorem zs_101_48 : zrun zP sv C 101 48 [l0] [v1, .ref b, r0, r1] h = zrc (h.1 b) 4 (zbk (C 164 [.ref b, v1] h) (fun v h' => zrun zP sv C 101 51 [l0] (v.toList ++ [r0, r1]) h') (fun E h' => some (.inr E, h'))) := zx_cv (x0 := 4) rfl rfl rfl rfl rfl ⟨Nat.le_of_ble_eq_true rfl, rfl⟩ (fun _ _ => rfl)
theorem zs_101_51 : zrun zP sv C 101 51 [l0] (.ref b :: .ref a :: st) h = zpfd (h.1 a) 12 2 4 (.ref b) (fun c => zrun zP sv C 101 54 [l0] st (zup h a c)) := zx_putf (x0 := 4) rfl rfl
theorem zs_101_54 : zrun zP sv C 101 54 [.val (.ref a)] st h = zrun zP sv C 101 55 [.val (.ref a)] (.ref a :: st) h := zx_go rfl rfl
theorem zs_101_55 : zrun zP sv C 101 55 [l0] st h = zrun zP sv C 101 58 [l0] (.ref h.2.1 :: st) (znew h (4, [.null]) 1) := zx_go rfl rfl
theorem zs_101_58 : zrun zP sv C 101 58 [l0] (.ref a :: st) h = zrun zP sv C 101 59 [l0] (.ref a :: .ref a :: st) h := zx_go rfl rfl
theorem zs_101_59 : zrun zP sv C 101 59 [l0] st h = zrun zP sv C 101 61 [l0] (.int (nI 62) :: st) h := zx_go rfl rfl
theorem zs_101_61 : zrun zP sv C 101 61 [l0] [v1, .ref b, r0, r1] h = zrc (h.1 b) 4 (zbk (C 164 [.ref b, v1] h) (fun v h' => zrun zP sv C 101 64 [l0] (v.toList ++ [r0, r1]) h') (fun E h' => some (.inr E, h'))) := zx_cv (x0 := 4) rfl rfl rfl rfl rfl ⟨Nat.le_of_ble_eq_true rfl, rfl⟩ (fun _ _ => rfl)
theorem zs_101_64 : zrun zP sv C 101 64 [l0] (.ref b :: .ref a :: st) h = zpfd (h.1 a) 12 3 4 (.ref b) (fun c => zrun zP sv C 101 67 [l0] st (zup h a c)) := zx_putf (x0 := 4) rfl rfl
theorem zs_101_67 : zrun zP sv C 101 67 [.val (.ref a)] st h = zrun zP sv C 101 68 [.val (.ref a)] (.ref a :: st) h := zx_go rfl rfl
theorem zs_101_68 : zrun zP sv C 101 68 [l0] st h = zrun zP sv C 101 71 [l0] (.ref h.2.1 :: st) (znew h (4, [.null]) 1) := zx_go rfl rfl
theorem zs_101_71 : zrun zP sv C 101 71 [l0] (.ref a :: st) h = zrun zP sv C 101 72 [l0] (.ref a :: .ref a :: st) h := zx_go rfl rfl
theorem zs_101_72 : zrun zP sv C 101 72 [l0] st h = zrun zP sv C 101 74 [l0] (.int (nI 62) :: st) h := zx_go rfl rfl
theorem zs_101_74 : zrun zP sv C 101 74 [l0] [v1, .ref b, r0, r1] h = zrc (h.1 b) 4 (zbk (C 164 [.ref b, v1] h) (fun v h' => zrun zP sv C 101 77 [l0] (v.toList ++ [r0, r1]) h') (fun E h' => some (.inr E, h'))) := zx_cv (x0 := 4) rfl rfl rfl rfl rfl ⟨Nat.le_of_ble_eq_true rfl, rfl⟩ (fun _ _ => rfl)
theorem zs_101_77 : zrun zP sv C 101 77 [l0] (.ref b :: .ref a :: st) h = zpfd (h.1 a) 12 4 4 (.ref b) (fun c => zrun zP sv C 101 80 [l0] st (zup h a c)) := zx_putf (x0 := 4) rfl rfl
theorem zs_101_80 : zrun zP sv C 101 80 [.val (.ref a)] st h = zrun zP sv C 101 81 [.val (.ref a)] (.ref a :: st) h := zx_go rfl rfl
theorem zs_101_81 : zrun zP sv C 101 81 [l0] st h = zrun zP sv C 101 82 [l0] (.int 0 :: st) h := zx_go rfl rfl
theorem zs_101_82 : zrun zP sv C 101 82 [l0] (.int x :: .ref a :: st) h = zpfd (h.1 a) 12 5 0 (.int x) (fun c => zrun zP sv C 101 85 [l0] st (zup h a c)) := zx_putf (x0 := 0) rfl rfl
theorem zs_101_85 : zrun zP sv C 101 85 [.val (.ref a)] st h = zrun zP sv C 101 86 [.val (.ref a)] (.ref a :: st) h := zx_go rfl rfl
theorem zs_101_86 : zrun zP sv C 101 86 [l0] st h = zrun zP sv C 101 89 [l0] (.ref h.2.1 :: st) (znew h (4, [.null]) 1) := zx_go rfl rfl
theorem zs_101_89 : zrun zP sv C 101 89 [l0] (.ref a :: st) h = zrun zP sv C 101 90 [l0] (.ref a :: .ref a :: st) h := zx_go rfl rfl
theorem zs_101_90 : zrun zP sv C 101 90 [l0] st h = zrun zP sv C 101 92 [l0] (.int (nI 7) :: st) h := zx_go rfl rfl
theorem zs_101_92 : zrun zP sv C 101 92 [l0] [v1, .ref b, r0, r1] h = zrc (h.1 b) 4 (zbk (C 164 [.ref b, v1] h) (fun v h' => zrun zP sv C 101 95 [l0] (v.toList ++ [r0, r1]) h') (fun E h' => some (.inr E, h'))) := zx_cv (x0 := 4) rfl rfl rfl rfl rfl ⟨Nat.le_of_ble_eq_true rfl, rfl⟩ (fun _ _ => rfl)
theorem zs_101_95 : zrun zP sv C 101 95 [l0] (.ref b :: .ref a :: st) h = zpfd (h.1 a) 12 7 4 (.ref b) (fun c => zrun zP sv C 101 98 [l0] st (zup h a c)) := zx_putf (x0 := 4) rfl rfl
theorem zs_101_98 : zrun zP sv C 101 98 [.val (.ref a)] st h = zrun zP sv C 101 99 [.val (.ref a)] (.ref a :: st) h := zx_go rfl rfl
theorem zs_101_99 : zrun zP sv C 101 99 [l0] st h = zrun zP sv C 101 102 [l0] (.ref h.2.1 :: st) (znew h (4, [.null]) 1) := zx_go rfl rfl
theorem zs_101_102 : zrun zP sv C 101 102 [l0] (.ref a :: st) h = zrun zP sv C 101 103 [l0] (.ref a :: .ref a :: st) h := zx_go rfl rfl
theorem zs_101_103 : zrun zP sv C 101 103 [l0] st h = zrun zP sv C 101 105 [l0] (.int (nI 11) :: st) h := zx_go rfl rfl
theorem zs_101_105 : zrun zP sv C 101 105 [l0] [v1, .ref b, r0, r1] h = zrc (h.1 b) 4 (zbk (C 164 [.ref b, v1] h) (fun v h' => zrun zP sv C 101 108 [l0] (v.toList ++ [r0, r1]) h') (fun E h' => some (.inr E, h'))) := zx_cv (x0 := 4) rfl rfl rfl rfl rfl ⟨Nat.le_of_ble_eq_true rfl, rfl⟩ (fun _ _ => rfl)
theorem zs_101_108 : zrun zP sv C 101 108 [l0] (.ref b :: .ref a :: st) h = zpfd (h.1 a) 12 8 4 (.ref b) (fun c => zrun zP sv C 101 111 [l0] st (zup h a c)) := zx_putf (x0 := 4) rfl rfl
theorem zs_101_111 : zrun zP sv C 101 111 [.val (.ref a)] st h = zrun zP sv C 101 112 [.val (.ref a)] (.ref a :: st) h := zx_go rfl rfl
theorem zs_101_112 : zrun zP sv C 101 112 [l0] st h = zrun zP sv C 101 113 [l0] (.int 0 :: st) h := zx_go rfl rfl
theorem zs_101_113 : zrun zP sv C 101 113 [l0] (.int x :: .ref a :: st) h = zpfd (h.1 a) 12 9 0 (.int x) (fun c => zrun zP sv C 101 116 [l0] st (zup h a c)) := zx_putf (x0 := 0) rfl rfl
theorem zs_101_116 : zrun zP sv C 101 116 [l0] [] h = some (.inl none, h) := zx_end rfl rfl
theorem zs_102_0 : zrun zP sv C 102 0 [.val (.ref a)] st h = zrun zP sv C 102 1 [.val (.ref a)] (.ref a :: st) h := zx_go rfl rfl
theorem zs_102_1 : zrun zP sv C 102 1 [l0] (.ref a :: st) h = zfld (h.1 a) 12 5 (fun v => zrun zP sv C 102 4 [l0] (v :: st) h) := zx_getf rfl rfl
theorem zs_102_4 : zrun zP sv C 102 4 [l0] [.int x] h = some (.inl (some (.int x)), h) := zx_end rfl rfl
theorem zs_103_0 : zrun zP sv C 103 0 [.val (.ref a), l1] st h = zrun zP sv C 103 1 [.val (.ref a), l1] (.ref a :: st) h := zx_go rfl rfl
theorem zs_103_1 : zrun zP sv C 103 1 [l0, l1] (.ref a :: st) h = zfld (h.1 a) 12 0 (fun v => zrun zP sv C 103 4 [l0, l1] (v :: st) h) := zx_getf rfl rfl
theorem zs_103_4 : zrun zP sv C 103 4 [l0, .val (.int x)] st h = zrun zP sv C 103 5 [l0, .val (.int x)] (.int x :: st) h := zx_go rfl rfl
theorem zs_103_5 : zrun zP sv C 103 5 [l0, l1] [v1, .ref b] h = zrc (h.1 b) 4 (zbk (C 165 [.ref b, v1] h) (fun v h' => zrun zP sv C 103 8 [l0, l1] (v.toList ++ []) h') (fun E h' => some (.inr E, h'))) := zx_cv (x0 := 4) rfl rfl rfl rfl rfl ⟨Nat.le_of_ble_eq_true rfl, rfl⟩ (fun _ _ => rfl)
theorem zs_103_8 : zrun zP sv C 103 8 [l0, l1] (.int x :: st) h = zrun zP sv C 103 9 [l0, l1] (.int (x.toUInt32 % 65536).toInt32 :: st) h := zx_go rfl rfl
theorem zs_103_9 : zrun zP sv C 103 9 [l0, l1] [.int x] h = zgd (zty 7 (.int x)) (some (.inl (some (.int x)), h)) := zx_rt rfl
theorem zs_104_0 : zrun zP sv C 104 0 [.val (.ref a), l1] st h = zrun zP sv C 104 1 [.val (.ref a), l1] (.ref a :: st) h := zx_go rfl rfl
theorem zs_104_1 : zrun zP sv C 104 1 [l0, l1] (.ref a :: st) h = zfld (h.1 a) 12 1 (fun v => zrun zP sv C 104 4 [l0, l1] (v :: st) h) := zx_getf rfl rfl
theorem zs_104_4 : zrun zP sv C 104 4 [l0, .val (.int x)] st h = zrun zP sv C 104 5 [l0, .val (.int x)] (.int x :: st) h := zx_go rfl rfl
theorem zs_104_5 : zrun zP sv C 104 5 [l0, l1] [v1, .ref b] h = zrc (h.1 b) 4 (zbk (C 165 [.ref b, v1] h) (fun v h' => zrun zP sv C 104 8 [l0, l1] (v.toList ++ []) h') (fun E h' => some (.inr E, h'))) := zx_cv (x0 := 4) rfl rfl rfl rfl rfl ⟨Nat.le_of_ble_eq_true rfl, rfl⟩ (fun _ _ => rfl)
theorem zs_104_8 : zrun zP sv C 104 8 [l0, l1] [.int x] h = some (.inl (some (.int x)), h) := zx_end rfl rfl
theorem zs_105_0 : zrun zP sv C 105 0 [l0, l1, l2] st h = zrun zP sv C 105 1 [l0, l1, l2] (.int 0 :: st) h := zx_go rfl rfl
theorem zs_105_1 (hs : znw l1 = true) : zrun zP sv C 105 1 [l0, l1, l2] (.int x :: st) h = zrun zP sv C 105 2 [l0, .val (.int x), l2] st h := zx_st hs rfl rfl rfl rfl rfl rfl
theorem zs_105_2 : zrun zP sv C 105 2 [l0, l1, l2] st h = zrun zP sv C 105 3 [l0, l1, l2] (.int 0 :: st) h := zx_go rfl rfl
theorem zs_105_3 (hs : znw l2 = true) : zrun zP sv C 105 3 [l0, l1, l2] (.int x :: st) h = zrun zP sv C 105 4 [l0, l1, .val (.int x)] st h := zx_st hs rfl rfl rfl rfl rfl rfl
theorem zs_105_4 : zrun zP sv C 105 4 [l0, l1, .val (.int x)] st h = zrun zP sv C 105 5 [l0, l1, .val (.int x)] (.int x :: st) h := zx_go rfl rfl
theorem zs_105_5 : zrun zP sv C 105 5 [.val (.ref a), l1, l2] st h = zrun zP sv C 105 6 [.val (.ref a), l1, l2] (.ref a :: st) h := zx_go rfl rfl
theorem zs_105_6 : zrun zP sv C 105 6 [l0, l1, l2] (.ref a :: st) h = zfld (h.1 a) 12 5 (fun v => zrun zP sv C 105 9 [l0, l1, l2] (v :: st) h) := zx_getf rfl rfl
theorem zs_105_9 : zrun zP sv C 105 9 [l0, l1, l2] (.int y :: .int x :: st) h = if x < y then zrun zP sv C 105 12 [l0, l1, l2] st h else zrun zP sv C 105 34 [l0, l1, l2] st h := (zx_ic rfl rfl).trans zc3_if
theorem zs_105_12 : zrun zP sv C 105 12 [.val (.ref a), l1, l2] st h = zrun zP sv C 105 13 [.val (.ref a), l1, l2] (.ref a :: st) h := zx_go rfl rfl
theorem zs_105_13 : zrun zP sv C 105 13 [l0, l1, l2] (.ref a :: st) h = zfld (h.1 a) 12 0 (fun v => zrun zP sv C 105 16 [l0, l1, l2] (v :: st) h) := zx_getf rfl rfl
theorem zs_105_16 : zrun zP sv C 105 16 [l0, l1, .val (.int x)] st h = zrun zP sv C 105 17 [l0, l1, .val (.int x)] (.int x :: st) h := zx_go rfl rfl
theorem zs_105_17 : zrun zP sv C 105 17 [l0, l1, l2] [v1, .ref b] h = zrc (h.1 b) 4 (zbk (C 165 [.ref b, v1] h) (fun v h' => zrun zP sv C 105 20 [l0, l1, l2] (v.toList ++ []) h') (fun E h' => some (.inr E, h'))) := zx_cv (x0 := 4) rfl rfl rfl rfl rfl ⟨Nat.le_of_ble_eq_true rfl, rfl⟩ (fun _ _ => rfl)
theorem zs_105_20 : zrun zP sv C 105 20 [l0, l1, l2] st h = zrun zP sv C 105 22 [l0, l1, l2] (.int (nI 115) :: st) h := zx_go rfl rfl
theorem zs_105_22 : zrun zP sv C 105 22 [l0, l1, l2] (.int y :: .int x :: st) h = if x = y then zrun zP sv C 105 25 [l0, l1, l2] st h else zrun zP sv C 105 28 [l0, l1, l2] st h := (zx_ic rfl rfl).trans zc1_if
theorem zs_105_25 : zrun zP sv C 105 25 [l0, .val (.int x), l2] st h = zrun zP sv C 105 28 [l0, .val (.int (x + (nI 1))), l2] st h := zx_ii rfl rfl rfl rfl rfl
theorem zs_105_28 : zrun zP sv C 105 28 [l0, l1, .val (.int x)] st h = zrun zP sv C 105 31 [l0, l1, .val (.int (x + (nI 1)))] st h := zx_ii rfl rfl rfl rfl rfl
theorem zs_105_31 : zrun zP sv C 105 31 [l0, l1, l2] st h = zrun zP sv C 105 4 [l0, l1, l2] st h := zx_go rfl rfl
theorem zs_105_34 : zrun zP sv C 105 34 [l0, .val (.int x), l2] st h = zrun zP sv C 105 35 [l0, .val (.int x), l2] (.int x :: st) h := zx_go rfl rfl
theorem zs_105_35 : zrun zP sv C 105 35 [l0, l1, l2] [.int x] h = some (.inl (some (.int x)), h) := zx_end rfl rfl
theorem zs_106_0 : zrun zP sv C 106 0 [l0, l1, l2] st h = zrun zP sv C 106 1 [l0, l1, l2] (.int 0 :: st) h := zx_go rfl rfl
theorem zs_106_1 (hs : znw l1 = true) : zrun zP sv C 106 1 [l0, l1, l2] (.int x :: st) h = zrun zP sv C 106 2 [l0, .val (.int x), l2] st h := zx_st hs rfl rfl rfl rfl rfl rfl
theorem zs_106_2 : zrun zP sv C 106 2 [l0, l1, l2] st h = zrun zP sv C 106 3 [l0, l1, l2] (.int 0 :: st) h := zx_go rfl rfl
theorem zs_106_3 (hs : znw l2 = true) : zrun zP sv C 106 3 [l0, l1, l2] (.int x :: st) h = zrun zP sv C 106 4 [l0, l1, .val (.int x)] st h := zx_st hs rfl rfl rfl rfl rfl rfl
theorem zs_106_4 : zrun zP sv C 106 4 [l0, l1, .val (.int x)] st h = zrun zP sv C 106 5 [l0, l1, .val (.int x)] (.int x :: st) h := zx_go rfl rfl
theorem zs_106_5 : zrun zP sv C 106 5 [.val (.ref a), l1, l2] st h = zrun zP sv C 106 6 [.val (.ref a), l1, l2] (.ref a :: st) h := zx_go rfl rfl
theorem zs_106_6 : zrun zP sv C 106 6 [l0, l1, l2] (.ref a :: st) h = zfld (h.1 a) 12 5 (fun v => zrun zP sv C 106 9 [l0, l1, l2] (v :: st) h) := zx_getf rfl rfl
theorem zs_106_9 : zrun zP sv C 106 9 [l0, l1, l2] (.int y :: .int x :: st) h = if x < y then zrun zP sv C 106 12 [l0, l1, l2] st h else zrun zP sv C 106 46 [l0, l1, l2] st h := (zx_ic rfl rfl).trans zc3_if
theorem zs_106_12 : zrun zP sv C 106 12 [.val (.ref a), l1, l2] st h = zrun zP sv C 106 13 [.val (.ref a), l1, l2] (.ref a :: st) h := zx_go rfl rfl
theorem zs_106_13 : zrun zP sv C 106 13 [l0, l1, l2] (.ref a :: st) h = zfld (h.1 a) 12 0 (fun v => zrun zP sv C 106 16 [l0, l1, l2] (v :: st) h) := zx_getf rfl rfl
theorem zs_106_16 : zrun zP sv C 106 16 [l0, l1, .val (.int x)] st h = zrun zP sv C 106 17 [l0, l1, .val (.int x)] (.int x :: st) h := zx_go rfl rfl
theorem zs_106_17 : zrun zP sv C 106 17 [l0, l1, l2] [v1, .ref b] h = zrc (h.1 b) 4 (zbk (C 165 [.ref b, v1] h) (fun v h' => zrun zP sv C 106 20 [l0, l1, l2] (v.toList ++ []) h') (fun E h' => some (.inr E, h'))) := zx_cv (x0 := 4) rfl rfl rfl rfl rfl ⟨Nat.le_of_ble_eq_true rfl, rfl⟩ (fun _ _ => rfl)
theorem zs_106_20 : zrun zP sv C 106 20 [l0, l1, l2] st h = zrun zP sv C 106 22 [l0, l1, l2] (.int (nI 115) :: st) h := zx_go rfl rfl
theorem zs_106_22 : zrun zP sv C 106 22 [l0, l1, l2] (.int y :: .int x :: st) h = if x = y then zrun zP sv C 106 25 [l0, l1, l2] st h else zrun zP sv C 106 40 [l0, l1, l2] st h := (zx_ic rfl rfl).trans zc1_if
theorem zs_106_25 : zrun zP sv C 106 25 [l0, .val (.int x), l2] st h = zrun zP sv C 106 26 [l0, .val (.int x), l2] (.int x :: st) h := zx_go rfl rfl
theorem zs_106_26 : zrun zP sv C 106 26 [.val (.ref a), l1, l2] st h = zrun zP sv C 106 27 [.val (.ref a), l1, l2] (.ref a :: st) h := zx_go rfl rfl
theorem zs_106_27 : zrun zP sv C 106 27 [l0, l1, l2] (.ref a :: st) h = zfld (h.1 a) 12 2 (fun v => zrun zP sv C 106 30 [l0, l1, l2] (v :: st) h) := zx_getf rfl rfl
theorem zs_106_30 : zrun zP sv C 106 30 [l0, l1, .val (.int x)] st h = zrun zP sv C 106 31 [l0, l1, .val (.int x)] (.int x :: st) h := zx_go rfl rfl
theorem zs_106_31 : zrun zP sv C 106 31 [l0, l1, l2] [v1, .ref b, r0] h = zrc (h.1 b) 4 (zbk (C 165 [.ref b, v1] h) (fun v h' => zrun zP sv C 106 34 [l0, l1, l2] (v.toList ++ [r0]) h') (fun E h' => some (.inr E, h'))) := zx_cv (x0 := 4) rfl rfl rfl rfl rfl ⟨Nat.le_of_ble_eq_true rfl, rfl⟩ (fun _ _ => rfl)
theorem zs_106_34 : zrun zP sv C 106 34 [l0, l1, l2] st h = zrun zP sv C 106 35 [l0, l1, l2] (.int (nI 1) :: st) h := zx_go rfl rfl
theorem zs_106_35 : zrun zP sv C 106 35 [l0, l1, l2] (.int y :: .int x :: st) h = zrun zP sv C 106 36 [l0, l1, l2] (.int (x + y) :: st) h := zx_go rfl rfl
theorem zs_106_36 : zrun zP sv C 106 36 [l0, l1, l2] [.int y, .int x] h = zrun zP sv C 106 39 [l0, l1, l2] [.int (if x < y then y else x)] h := zx_go rfl rfl
theorem zs_106_39 (hs : znw l1 = true) : zrun zP sv C 106 39 [l0, l1, l2] (.int x :: st) h = zrun zP sv C 106 40 [l0, .val (.int x), l2] st h := zx_st hs rfl rfl rfl rfl rfl rfl
theorem zs_106_40 : zrun zP sv C 106 40 [l0, l1, .val (.int x)] st h = zrun zP sv C 106 43 [l0, l1, .val (.int (x + (nI 1)))] st h := zx_ii rfl rfl rfl rfl rfl
theorem zs_106_43 : zrun zP sv C 106 43 [l0, l1, l2] st h = zrun zP sv C 106 4 [l0, l1, l2] st h := zx_go rfl rfl
theorem zs_106_46 : zrun zP sv C 106 46 [l0, .val (.int x), l2] st h = zrun zP sv C 106 47 [l0, .val (.int x), l2] (.int x :: st) h := zx_go rfl rfl
theorem zs_106_47 : zrun zP sv C 106 47 [l0, l1, l2] [.int x] h = some (.inl (some (.int x)), h) := zx_end rfl rfl
theorem zs_107_0 : zrun zP sv C 107 0 [.val (.ref a), l1, l2] st h = zrun zP sv C 107 1 [.val (.ref a), l1, l2] (.ref a :: st) h := zx_go rfl rfl
theorem zs_107_1 : zrun zP sv C 107 1 [l0, l1, l2] (.ref a :: st) h = zfld (h.1 a) 12 6 (fun v => zrun zP sv C 107 4 [l0, l1, l2] (v :: st) h) := zx_getf rfl rfl
theorem zs_107_4 : zrun zP sv C 107 4 [l0, .val (.ref a), l2] st h = zrun zP sv C 107 5 [l0, .val (.ref a), l2] (.ref a :: st) h := zx_go rfl rfl
theorem zs_107_5 : zrun zP sv C 107 5 [l0, l1, l2] [v1, .ref b] h = zrc (h.1 b) 10 (zbk (C 125 [.ref b, v1] h) (fun v h' => zrun zP sv C 107 8 [l0, l1, l2] (v.toList ++ []) h') (fun E h' => some (.inr E, h'))) := zx_cv (x0 := 10) rfl rfl rfl rfl rfl ⟨Nat.le_of_ble_eq_true rfl, rfl⟩ (fun _ _ => rfl)
theorem zs_107_8 : zrun zP sv C 107 8 [l0, l1, l2] (.int x :: st) h = zrun zP sv C 107 9 [l0, l1, l2] st h := zx_go rfl rfl
theorem zs_107_9 : zrun zP sv C 107 9 [.val (.ref a), l1, l2] st h = zrun zP sv C 107 10 [.val (.ref a), l1, l2] (.ref a :: st) h := zx_go rfl rfl
theorem zs_107_10 : zrun zP sv C 107 10 [l0, l1, .val (.int x)] st h = zrun zP sv C 107 11 [l0, l1, .val (.int x)] (.int x :: st) h := zx_go rfl rfl
theorem zs_107_11 : zrun zP sv C 107 11 [l0, l1, l2] (.int x :: .ref a :: st) h = zpfd (h.1 a) 12 9 0 (.int x) (fun c => zrun zP sv C 107 14 [l0, l1, l2] st (zup h a c)) := zx_putf (x0 := 0) rfl rfl
theorem zs_107_14 : zrun zP sv C 107 14 [.val (.ref a), l1, l2] st h = zrun zP sv C 107 15 [.val (.ref a), l1, l2] (.ref a :: st) h := zx_go rfl rfl
theorem zs_107_15 : zrun zP sv C 107 15 [l0, l1, l2] st h = zrun zP sv C 107 16 [l0, l1, l2] (.int 0 :: st) h := zx_go rfl rfl
theorem zs_107_16 : zrun zP sv C 107 16 [l0, l1, l2] (.int x :: .ref a :: st) h = zpfd (h.1 a) 12 5 0 (.int x) (fun c => zrun zP sv C 107 19 [l0, l1, l2] st (zup h a c)) := zx_putf (x0 := 0) rfl rfl
theorem zs_107_19 : zrun zP sv C 107 19 [.val (.ref a), l1, l2] st h = zrun zP sv C 107 20 [.val (.ref a), l1, l2] (.ref a :: st) h := zx_go rfl rfl
theorem zs_107_20 : zrun zP sv C 107 20 [l0, .val (.ref a), l2] st h = zrun zP sv C 107 21 [l0, .val (.ref a), l2] (.ref a :: st) h := zx_go rfl rfl
theorem zs_107_21 : zrun zP sv C 107 21 [l0, .val (.ref a), l2] st h = zrun zP sv C 107 22 [l0, .val (.ref a), l2] (.ref a :: st) h := zx_go rfl rfl
theorem zs_107_22 : zrun zP sv C 107 22 [l0, l1, l2] [.ref b, r0, r1] h = zrc (h.1 b) 6 (zbk (C 183 [.ref b] h) (fun v h' => zrun zP sv C 107 25 [l0, l1, l2] (v.toList ++ [r0, r1]) h') (fun E h' => some (.inr E, h'))) := zx_cv (x0 := 6) rfl rfl rfl rfl rfl ⟨Nat.le_of_ble_eq_true rfl, rfl⟩ (fun _ _ => rfl)
theorem zs_107_25 : zrun zP sv C 107 25 [l0, l1, l2] st h = zrun zP sv C 107 26 [l0, l1, l2] (.int 0 :: st) h := zx_go rfl rfl
theorem zs_107_26 : zrun zP sv C 107 26 [l0, l1, l2] st h = zrun zP sv C 107 27 [l0, l1, l2] (.int (nI 1) :: st) h := zx_go rfl rfl
theorem zs_107_27 : zrun zP sv C 107 27 [l0, l1, l2] [v4, v3, v2, v1, .ref b] h = zrc (h.1 b) 12 (zbk (C 108 [.ref b, v1, v2, v3, v4] h) (fun v h' => zrun zP sv C 107 30 [l0, l1, l2] (v.toList ++ []) h') (fun E h' => some (.inr E, h'))) := zx_cv (x0 := 12) rfl rfl rfl rfl rfl ⟨Nat.le_of_ble_eq_true rfl, rfl⟩ (fun _ _ => rfl)
theorem zs_107_30 : zrun zP sv C 107 30 [l0, l1, l2] [] h = some (.inl none, h) := zx_end rfl rfl
theorem zs_108_0 : zrun zP sv C 108 0 [l0, l1, l2, l3, .val (.int x), l5] st h = zrun zP sv C 108 2 [l0, l1, l2, l3, .val (.int x), l5] (.int x :: st) h := zx_go rfl rfl
theorem zs_108_2 : zrun zP sv C 108 2 [l0, l1, l2, l3, l4, l5] st h = zrun zP sv C 108 4 [l0, l1, l2, l3, l4, l5] (.int (nI 40) :: st) h := zx_go rfl rfl
theorem zs_108_4 : zrun zP sv C 108 4 [l0, l1, l2, l3, l4, l5] (.int y :: .int x :: st) h = if y < x then zrun zP sv C 108 7 [l0, l1, l2, l3, l4, l5] st h else zrun zP sv C 108 8 [l0, l1, l2, l3, l4, l5] st h := (zx_ic rfl rfl).trans zc5_if
theorem zs_108_7 : zrun zP sv C 108 7 [l0, l1, l2, l3, l4, l5] [] h = some (.inl none, h) := zx_end rfl rfl
theorem zs_108_8 : zrun zP sv C 108 8 [l0, .val (.ref a), l2, l3, l4, l5] st h = zrun zP sv C 108 9 [l0, .val (.ref a), l2, l3, l4, l5] (.ref a :: st) h := zx_go rfl rfl
theorem zs_108_9 : zrun zP sv C 108 9 [l0, l1, .val (.int x), l3, l4, l5] st h = zrun zP sv C 108 10 [l0, l1, .val (.int x), l3, l4, l5] (.int x :: st) h := zx_go rfl rfl
theorem zs_108_10 : zrun zP sv C 108 10 [l0, l1, l2, l3, l4, l5] [v1, .ref b] h = zrc (h.1 b) 6 (zbk (C 184 [.ref b, v1] h) (fun v h' => zrun zP sv C 108 13 [l0, l1, l2, l3, l4, l5] (v.toList ++ []) h') (fun E h' => some (.inr E, h'))) := zx_cv (x0 := 6) rfl rfl rfl rfl rfl ⟨Nat.le_of_ble_eq_true rfl, rfl⟩ (fun _ _ => rfl)
theorem zs_108_13 (hs : znw l5 = true) : zrun zP sv C 108 13 [l0, l1, l2, l3, l4, l5] (.int x :: st) h = zrun zP sv C 108 15 [l0, l1, l2, l3, l4, .val (.int x)] st h := zx_st hs rfl rfl rfl rfl rfl rfl
theorem zs_108_15 : zrun zP sv C 108 15 [l0, l1, l2, l3, l4, .val (.int x)] st h = zrun zP sv C 108 17 [l0, l1, l2, l3, l4, .val (.int x)] (.int x :: st) h := zx_go rfl rfl
theorem zs_108_17 : zrun zP sv C 108 17 [l0, l1, l2, l3, l4, l5] [v0] h = zbk (C 83 [v0] h) (fun v h' => zrun zP sv C 108 20 [l0, l1, l2, l3, l4, l5] (v.toList ++ []) h') (fun E h' => some (.inr E, h')) := zx_cs rfl rfl rfl rfl ⟨Nat.le_of_ble_eq_true rfl, rfl⟩ (fun _ _ => rfl)
theorem zs_108_20 : zrun zP sv C 108 20 [l0, l1, l2, l3, l4, l5] (.int x :: st) h = if x = 0 then zrun zP sv C 108 35 [l0, l1, l2, l3, l4, l5] st h else zrun zP sv C 108 23 [l0, l1, l2, l3, l4, l5] st h := (zx_if rfl rfl).trans zc0_if
theorem zs_108_23 : zrun zP sv C 108 23 [.val (.ref a), l1, l2, l3, l4, l5] st h = zrun zP sv C 108 24 [.val (.ref a), l1, l2, l3, l4, l5] (.ref a :: st) h := zx_go rfl rfl
theorem zs_108_24 : zrun zP sv C 108 24 [l0, .val (.ref a), l2, l3, l4, l5] st h = zrun zP sv C 108 25 [l0, .val (.ref a), l2, l3, l4, l5] (.ref a :: st) h := zx_go rfl rfl
theorem zs_108_25 : zrun zP sv C 108 25 [l0, l1, .val (.int x), l3, l4, l5] st h = zrun zP sv C 108 26 [l0, l1, .val (.int x), l3, l4, l5] (.int x :: st) h := zx_go rfl rfl
theorem zs_108_26 : zrun zP sv C 108 26 [l0, l1, l2, .val (.int x), l4, l5] st h = zrun zP sv C 108 27 [l0, l1, l2, .val (.int x), l4, l5] (.int x :: st) h := zx_go rfl rfl
theorem zs_108_27 : zrun zP sv C 108 27 [l0, l1, l2, l3, .val (.int x), l5] st h = zrun zP sv C 108 29 [l0, l1, l2, l3, .val (.int x), l5] (.int x :: st) h := zx_go rfl rfl
theorem zs_108_29 : zrun zP sv C 108 29 [l0, l1, l2, l3, l4, l5] [v4, v3, v2, v1, .ref b] h = zrc (h.1 b) 12 (zbk (C 109 [.ref b, v1, v2, v3, v4] h) (fun v h' => zrun zP sv C 108 32 [l0, l1, l2, l3, l4, l5] (v.toList ++ []) h') (fun E h' => some (.inr E, h'))) := zx_cv (x0 := 12) rfl rfl rfl rfl rfl ⟨Nat.le_of_ble_eq_true rfl, rfl⟩ (fun _ _ => rfl)
theorem zs_108_32 : zrun zP sv C 108 32 [l0, l1, l2, l3, l4, l5] st h = zrun zP sv C 108 84 [l0, l1, l2, l3, l4, l5] st h := zx_go rfl rfl
theorem zs_108_35 : zrun zP sv C 108 35 [l0, l1, l2, l3, l4, .val (.int x)] st h = zrun zP sv C 108 37 [l0, l1, l2, l3, l4, .val (.int x)] (.int x :: st) h := zx_go rfl rfl
theorem zs_108_37 : zrun zP sv C 108 37 [l0, l1, l2, l3, l4, l5] st h = zrun zP sv C 108 39 [l0, l1, l2, l3, l4, l5] (.int (nI 110) :: st) h := zx_go rfl rfl
theorem zs_108_39 : zrun zP sv C 108 39 [l0, l1, l2, l3, l4, l5] (.int y :: .int x :: st) h = if x = y then zrun zP sv C 108 42 [l0, l1, l2, l3, l4, l5] st h else zrun zP sv C 108 70 [l0, l1, l2, l3, l4, l5] st h := (zx_ic rfl rfl).trans zc1_if
theorem zs_108_42 : zrun zP sv C 108 42 [.val (.ref a), l1, l2, l3, l4, l5] st h = zrun zP sv C 108 43 [.val (.ref a), l1, l2, l3, l4, l5] (.ref a :: st) h := zx_go rfl rfl
theorem zs_108_43 : zrun zP sv C 108 43 [l0, .val (.ref a), l2, l3, l4, l5] st h = zrun zP sv C 108 44 [l0, .val (.ref a), l2, l3, l4, l5] (.ref a :: st) h := zx_go rfl rfl
theorem zs_108_44 : zrun zP sv C 108 44 [l0, .val (.ref a), l2, l3, l4, l5] st h = zrun zP sv C 108 45 [l0, .val (.ref a), l2, l3, l4, l5] (.ref a :: st) h := zx_go rfl rfl
theorem zs_108_45 : zrun zP sv C 108 45 [l0, l1, .val (.int x), l3, l4, l5] st h = zrun zP sv C 108 46 [l0, l1, .val (.int x), l3, l4, l5] (.int x :: st) h := zx_go rfl rfl
theorem zs_108_46 : zrun zP sv C 108 46 [l0, l1, l2, l3, l4, l5] [v1, .ref b, r0, r1] h = zrc (h.1 b) 6 (zbk (C 186 [.ref b, v1] h) (fun v h' => zrun zP sv C 108 49 [l0, l1, l2, l3, l4, l5] (v.toList ++ [r0, r1]) h') (fun E h' => some (.inr E, h'))) := zx_cv (x0 := 6) rfl rfl rfl rfl rfl ⟨Nat.le_of_ble_eq_true rfl, rfl⟩ (fun _ _ => rfl)
theorem zs_108_49 : zrun zP sv C 108 49 [l0, l1, l2, .val (.int x), l4, l5] st h = zrun zP sv C 108 50 [l0, l1, l2, .val (.int x), l4, l5] (.int x :: st) h := zx_go rfl rfl
theorem zs_108_50 : zrun zP sv C 108 50 [l0, l1, l2, l3, .val (.int x), l5] st h = zrun zP sv C 108 52 [l0, l1, l2, l3, .val (.int x), l5] (.int x :: st) h := zx_go rfl rfl
theorem zs_108_52 : zrun zP sv C 108 52 [l0, l1, l2, l3, l4, l5] st h = zrun zP sv C 108 53 [l0, l1, l2, l3, l4, l5] (.int (nI 1) :: st) h := zx_go rfl rfl
theorem zs_108_53 : zrun zP sv C 108 53 [l0, l1, l2, l3, l4, l5] (.int y :: .int x :: st) h = zrun zP sv C 108 54 [l0, l1, l2, l3, l4, l5] (.int (x + y) :: st) h := zx_go rfl rfl
theorem zs_108_54 : zrun zP sv C 108 54 [l0, l1, l2, l3, l4, l5] [v4, v3, v2, v1, .ref b] h = zrc (h.1 b) 12 (zbk (C 108 [.ref b, v1, v2, v3, v4] h) (fun v h' => zrun zP sv C 108 57 [l0, l1, l2, l3, l4, l5] (v.toList ++ []) h') (fun E h' => some (.inr E, h'))) := zx_cv (x0 := 12) rfl rfl rfl rfl rfl ⟨Nat.le_of_ble_eq_true rfl, rfl⟩ (fun _ _ => rfl)
theorem zs_108_57 : zrun zP sv C 108 57 [.val (.ref a), l1, l2, l3, l4, l5] st h = zrun zP sv C 108 58 [.val (.ref a), l1, l2, l3, l4, l5] (.ref a :: st) h := zx_go rfl rfl
theorem zs_108_58 : zrun zP sv C 108 58 [l0, l1, l2, l3, l4, l5] st h = zrun zP sv C 108 60 [l0, l1, l2, l3, l4, l5] (.int (nI 110) :: st) h := zx_go rfl rfl
theorem zs_108_60 : zrun zP sv C 108 60 [l0, l1, l2, .val (.int x), l4, l5] st h = zrun zP sv C 108 61 [l0, l1, l2, .val (.int x), l4, l5] (.int x :: st) h := zx_go rfl rfl
theorem zs_108_61 : zrun zP sv C 108 61 [l0, l1, l2, l3, l4, l5] st h = zrun zP sv C 108 62 [l0, l1, l2, l3, l4, l5] (.int 0 :: st) h := zx_go rfl rfl
theorem zs_108_62 : zrun zP sv C 108 62 [l0, l1, l2, .val (.int x), l4, l5] st h = zrun zP sv C 108 63 [l0, l1, l2, .val (.int x), l4, l5] (.int x :: st) h := zx_go rfl rfl
theorem zs_108_63 : zrun zP sv C 108 63 [l0, l1, l2, l3, l4, l5] st h = zrun zP sv C 108 64 [l0, l1, l2, l3, l4, l5] (.int (-1) :: st) h := zx_go rfl rfl
theorem zs_108_64 : zrun zP sv C 108 64 [l0, l1, l2, l3, l4, l5] [v5, v4, v3, v2, v1, .ref b] h = zrc (h.1 b) 12 (zbk (C 111 [.ref b, v1, v2, v3, v4, v5] h) (fun v h' => zrun zP sv C 108 67 [l0, l1, l2, l3, l4, l5] (v.toList ++ []) h') (fun E h' => some (.inr E, h'))) := zx_cv (x0 := 12) rfl rfl rfl rfl rfl ⟨Nat.le_of_ble_eq_true rfl, rfl⟩ (fun _ _ => rfl)
theorem zs_108_67 : zrun zP sv C 108 67 [l0, l1, l2, l3, l4, l5] st h = zrun zP sv C 108 84 [l0, l1, l2, l3, l4, l5] st h := zx_go rfl rfl
theorem zs_108_70 : zrun zP sv C 108 70 [.val (.ref a), l1, l2, l3, l4, l5] st h = zrun zP sv C 108 71 [.val (.ref a), l1, l2, l3, l4, l5] (.ref a :: st) h := zx_go rfl rfl
theorem zs_108_71 : zrun zP sv C 108 71 [l0, l1, l2, l3, l4, .val (.int x)] st h = zrun zP sv C 108 73 [l0, l1, l2, l3, l4, .val (.int x)] (.int x :: st) h := zx_go rfl rfl
theorem zs_108_73 : zrun zP sv C 108 73 [l0, l1, l2, .val (.int x), l4, l5] st h = zrun zP sv C 108 74 [l0, l1, l2, .val (.int x), l4, l5] (.int x :: st) h := zx_go rfl rfl
theorem zs_108_74 : zrun zP sv C 108 74 [l0, .val (.ref a), l2, l3, l4, l5] st h = zrun zP sv C 108 75 [l0, .val (.ref a), l2, l3, l4, l5] (.ref a :: st) h := zx_go rfl rfl
theorem zs_108_75 : zrun zP sv C 108 75 [l0, l1, .val (.int x), l3, l4, l5] st h = zrun zP sv C 108 76 [l0, l1, .val (.int x), l3, l4, l5] (.int x :: st) h := zx_go rfl rfl
theorem zs_108_76 : zrun zP sv C 108 76 [l0, l1, l2, l3, l4, l5] [v1, .ref b, r0, r1, r2] h = zrc (h.1 b) 6 (zbk (C 185 [.ref b, v1] h) (fun v h' => zrun zP sv C 108 79 [l0, l1, l2, l3, l4, l5] (v.toList ++ [r0, r1, r2]) h') (fun E h' => some (.inr E, h'))) := zx_cv (x0 := 6) rfl rfl rfl rfl rfl ⟨Nat.le_of_ble_eq_true rfl, rfl⟩ (fun _ _ => rfl)
theorem zs_108_79 : zrun zP sv C 108 79 [l0, l1, l2, l3, l4, l5] st h = zrun zP sv C 108 80 [l0, l1, l2, l3, l4, l5] (.int (-1) :: st) h := zx_go rfl rfl
theorem zs_108_80 : zrun zP sv C 108 80 [l0, l1, l2, l3, l4, l5] st h = zrun zP sv C 108 81 [l0, l1, l2, l3, l4, l5] (.int (-1) :: st) h := zx_go rfl rfl
theorem zs_108_81 : zrun zP sv C 108 81 [l0, l1, l2, l3, l4, l5] [v5, v4, v3, v2, v1, .ref b] h = zrc (h.1 b) 12 (zbk (C 111 [.ref b, v1, v2, v3, v4, v5] h) (fun v h' => zrun zP sv C 108 84 [l0, l1, l2, l3, l4, l5] (v.toList ++ []) h') (fun E h' => some (.inr E, h'))) := zx_cv (x0 := 12) rfl rfl rfl rfl rfl ⟨Nat.le_of_ble_eq_true rfl, rfl⟩ (fun _ _ => rfl)
theorem zs_108_84 : zrun zP sv C 108 84 [l0, l1, l2, l3, l4, l5] [] h = some (.inl none, h) := zx_end rfl rfl
theorem zs_109_0 : zrun zP sv C 109 0 [l0, .val (.ref a), l2, l3, l4, l5, l6, l7, l8, l9, l10, l11] st h = zrun zP sv C 109 1 [l0, .val (.ref a), l2, l3, l4, l5, l6, l7, l8, l9, l10, l11] (.ref a :: st) h := zx_go rfl rfl
theorem zs_109_1 : zrun zP sv C 109 1 [l0, l1, .val (.int x), l3, l4, l5, l6, l7, l8, l9, l10, l11] st h = zrun zP sv C 109 2 [l0, l1, .val (.int x), l3, l4, l5, l6, l7, l8, l9, l10, l11] (.int x :: st) h := zx_go rfl rfl
theorem zs_109_2 : zrun zP sv C 109 2 [l0, l1, l2, l3, l4, l5, l6, l7, l8, l9, l10, l11] [v1, .ref b] h = zrc (h.1 b) 6 (zbk (C 186 [.ref b, v1] h) (fun v h' => zrun zP sv C 109 5 [l0, l1, l2, l3, l4, l5, l6, l7, l8, l9, l10, l11] (v.toList ++ []) h') (fun E h' => some (.inr E, h'))) := zx_cv (x0 := 6) rfl rfl rfl rfl rfl ⟨Nat.le_of_ble_eq_true rfl, rfl⟩ (fun _ _ => rfl)
theorem zs_109_5 (hs : znw l5 = true) : zrun zP sv C 109 5 [l0, l1, l2, l3, l4, l5, l6, l7, l8, l9, l10, l11] (.int x :: st) h = zrun zP sv C 109 7 [l0, l1, l2, l3, l4, .val (.int x), l6, l7, l8, l9, l10, l11] st h := zx_st hs rfl rfl rfl rfl rfl rfl
theorem zs_109_7 : zrun zP sv C 109 7 [l0, .val (.ref a), l2, l3, l4, l5, l6, l7, l8, l9, l10, l11] st h = zrun zP sv C 109 8 [l0, .val (.ref a), l2, l3, l4, l5, l6, l7, l8, l9, l10, l11] (.ref a :: st) h := zx_go rfl rfl
theorem zs_109_8 : zrun zP sv C 109 8 [l0, l1, .val (.int x), l3, l4, l5, l6, l7, l8, l9, l10, l11] st h = zrun zP sv C 109 9 [l0, l1, .val (.int x), l3, l4, l5, l6, l7, l8, l9, l10, l11] (.int x :: st) h := zx_go rfl rfl
theorem zs_109_9 : zrun zP sv C 109 9 [l0, l1, l2, l3, l4, l5, l6, l7, l8, l9, l10, l11] [v1, .ref b] h = zrc (h.1 b) 6 (zbk (C 187 [.ref b, v1] h) (fun v h' => zrun zP sv C 109 12 [l0, l1, l2, l3, l4, l5, l6, l7, l8, l9, l10, l11] (v.toList ++ []) h') (fun E h' => some (.inr E, h'))) := zx_cv (x0 := 6) rfl rfl rfl rfl rfl ⟨Nat.le_of_ble_eq_true rfl, rfl⟩ (fun _ _ => rfl)
theorem zs_109_12 (hs : znw l6 = true) : zrun zP sv C 109 12 [l0, l1, l2, l3, l4, l5, l6, l7, l8, l9, l10, l11] (.int x :: st) h = zrun zP sv C 109 14 [l0, l1, l2, l3, l4, l5, .val (.int x), l7, l8, l9, l10, l11] st h := zx_st hs rfl rfl rfl rfl rfl rfl
theorem zs_109_14 : zrun zP sv C 109 14 [.val (.ref a), l1, l2, l3, l4, l5, l6, l7, l8, l9, l10, l11] st h = zrun zP sv C 109 15 [.val (.ref a), l1, l2, l3, l4, l5, l6, l7, l8, l9, l10, l11] (.ref a :: st) h := zx_go rfl rfl
theorem zs_109_15 : zrun zP sv C 109 15 [l0, l1, l2, l3, l4, l5, l6, l7, l8, l9, l10, l11] (.ref a :: st) h = zfld (h.1 a) 12 6 (fun v => zrun zP sv C 109 18 [l0, l1, l2, l3, l4, l5, l6, l7, l8, l9, l10, l11] (v :: st) h) := zx_getf rfl rfl
theorem zs_109_18 : zrun zP sv C 109 18 [l0, l1, l2, l3, l4, .val (.int x), l6, l7, l8, l9, l10, l11] st h = zrun zP sv C 109 20 [l0, l1, l2, l3, l4, .val (.int x), l6, l7, l8, l9, l10, l11] (.int x :: st) h := zx_go rfl rfl
theorem zs_109_20 : zrun zP sv C 109 20 [l0, l1, l2, l3, l4, l5, l6, l7, l8, l9, l10, l11] [v1, .ref b] h = zrc (h.1 b) 10 (zbk (C 126 [.ref b, v1] h) (fun v h' => zrun zP sv C 109 23 [l0, l1, l2, l3, l4, l5, l6, l7, l8, l9, l10, l11] (v.toList ++ []) h') (fun E h' => some (.inr E, h'))) := zx_cv (x0 := 10) rfl rfl rfl rfl rfl ⟨Nat.le_of_ble_eq_true rfl, rfl⟩ (fun _ _ => rfl)
theorem zs_109_23 : zrun zP sv C 109 23 [.val (.ref a), l1, l2, l3, l4, l5, l6, l7, l8, l9, l10, l11] st h = zrun zP sv C 109 24 [.val (.ref a), l1, l2, l3, l4, l5, l6, l7, l8, l9, l10, l11] (.ref a :: st) h := zx_go rfl rfl
theorem zs_109_24 : zrun zP sv C 109 24 [l0, l1, l2, l3, l4, l5, l6, l7, l8, l9, l10, l11] (.ref a :: st) h = zfld (h.1 a) 12 6 (fun v => zrun zP sv C 109 27 [l0, l1, l2, l3, l4, l5, l6, l7, l8, l9, l10, l11] (v :: st) h) := zx_getf rfl rfl
theorem zs_109_27 : zrun zP sv C 109 27 [l0, l1, l2, l3, l4, l5, .val (.int x), l7, l8, l9, l10, l11] st h = zrun zP sv C 109 29 [l0, l1, l2, l3, l4, l5, .val (.int x), l7, l8, l9, l10, l11] (.int x :: st) h := zx_go rfl rfl
theorem zs_109_29 : zrun zP sv C 109 29 [l0, l1, l2, l3, l4, l5, l6, l7, l8, l9, l10, l11] [v1, .ref b, r0] h = zrc (h.1 b) 10 (zbk (C 126 [.ref b, v1] h) (fun v h' => zrun zP sv C 109 32 [l0, l1, l2, l3, l4, l5, l6, l7, l8, l9, l10, l11] (v.toList ++ [r0]) h') (fun E h' => some (.inr E, h'))) := zx_cv (x0 := 10) rfl rfl rfl rfl rfl ⟨Nat.le_of_ble_eq_true rfl, rfl⟩ (fun _ _ => rfl)
theorem zs_109_32 : zrun zP sv C 109 32 [l0, l1, l2, l3, l4, l5, l6, l7, l8, l9, l10, l11] (.int y :: .int x :: st) h = if x < y then zrun zP sv C 109 39 [l0, l1, l2, l3, l4, l5, l6, l7, l8, l9, l10, l11] st h else zrun zP sv C 109 35 [l0, l1, l2, l3, l4, l5, l6, l7, l8, l9, l10, l11] st h := (zx_ic rfl rfl).trans zc2_if
theorem zs_109_35 : zrun zP sv C 109 35 [l0, l1, l2, l3, l4, l5, l6, l7, l8, l9, l10, l11] st h = zrun zP sv C 109 36 [l0, l1, l2, l3, l4, l5, l6, l7, l8, l9, l10, l11] (.int (nI 1) :: st) h := zx_go rfl rfl
theorem zs_109_36 : zrun zP sv C 109 36 [l0, l1, l2, l3, l4, l5, l6, l7, l8, l9, l10, l11] st h = zrun zP sv C 109 40 [l0, l1, l2, l3, l4, l5, l6, l7, l8, l9, l10, l11] st h := zx_go rfl rfl
theorem zs_109_39 : zrun zP sv C 109 39 [l0, l1, l2, l3, l4, l5, l6, l7, l8, l9, l10, l11] st h = zrun zP sv C 109 40 [l0, l1, l2, l3, l4, l5, l6, l7, l8, l9, l10, l11] (.int 0 :: st) h := zx_go rfl rfl
theorem zs_109_40 (hs : znw l7 = true) : zrun zP sv C 109 40 [l0, l1, l2, l3, l4, l5, l6, l7, l8, l9, l10, l11] (.int x :: st) h = zrun zP sv C 109 42 [l0, l1, l2, l3, l4, l5, l6, .val (.int x), l8, l9, l10, l11] st h := zx_st hs rfl rfl rfl rfl rfl rfl
theorem zs_109_42 : zrun zP sv C 109 42 [l0, l1, l2, l3, l4, l5, l6, .val (.int x), l8, l9, l10, l11] st h = zrun zP sv C 109 44 [l0, l1, l2, l3, l4, l5, l6, .val (.int x), l8, l9, l10, l11] (.int x :: st) h := zx_go rfl rfl
theorem zs_109_44 : zrun zP sv C 109 44 [l0, l1, l2, l3, l4, l5, l6, l7, l8, l9, l10, l11] (.int x :: st) h = if x = 0 then zrun zP sv C 109 52 [l0, l1, l2, l3, l4, l5, l6, l7, l8, l9, l10, l11] st h else zrun zP sv C 109 47 [l0, l1, l2, l3, l4, l5, l6, l7, l8, l9, l10, l11] st h := (zx_if rfl rfl).trans zc0_if
theorem zs_109_47 : zrun zP sv C 109 47 [l0, l1, l2, l3, l4, l5, .val (.int x), l7, l8, l9, l10, l11] st h = zrun zP sv C 109 49 [l0, l1, l2, l3, l4, l5, .val (.int x), l7, l8, l9, l10, l11] (.int x :: st) h := zx_go rfl rfl
theorem zs_109_49 : zrun zP sv C 109 49 [l0, l1, l2, l3, l4, l5, l6, l7, l8, l9, l10, l11] st h = zrun zP sv C 109 54 [l0, l1, l2, l3, l4, l5, l6, l7, l8, l9, l10, l11] st h := zx_go rfl rfl
theorem zs_109_52 : zrun zP sv C 109 52 [l0, l1, l2, l3, l4, .val (.int x), l6, l7, l8, l9, l10, l11] st h = zrun zP sv C 109 54 [l0, l1, l2, l3, l4, .val (.int x), l6, l7, l8, l9, l10, l11] (.int x :: st) h := zx_go rfl rfl
theorem zs_109_54 (hs : znw l8 = true) : zrun zP sv C 109 54 [l0, l1, l2, l3, l4, l5, l6, l7, l8, l9, l10, l11] (.int x :: st) h = zrun zP sv C 109 56 [l0, l1, l2, l3, l4, l5, l6, l7, .val (.int x), l9, l10, l11] st h := zx_st hs rfl rfl rfl rfl rfl rfl
theorem zs_109_56 : zrun zP sv C 109 56 [.val (.ref a), l1, l2, l3, l4, l5, l6, l7, l8, l9, l10, l11] st h = zrun zP sv C 109 57 [.val (.ref a), l1, l2, l3, l4, l5, l6, l7, l8, l9, l10, l11] (.ref a :: st) h := zx_go rfl rfl
theorem zs_109_57 : zrun zP sv C 109 57 [l0, .val (.ref a), l2, l3, l4, l5, l6, l7, l8, l9, l10, l11] st h = zrun zP sv C 109 58 [l0, .val (.ref a), l2, l3, l4, l5, l6, l7, l8, l9, l10, l11] (.ref a :: st) h := zx_go rfl rfl
theorem zs_109_58 : zrun zP sv C 109 58 [l0, l1, l2, l3, l4, l5, l6, .val (.int x), l8, l9, l10, l11] st h = zrun zP sv C 109 60 [l0, l1, l2, l3, l4, l5, l6, .val (.int x), l8, l9, l10, l11] (.int x :: st) h := zx_go rfl rfl
theorem zs_109_60 : zrun zP sv C 109 60 [l0, l1, l2, l3, l4, l5, l6, l7, l8, l9, l10, l11] (.int x :: st) h = if x = 0 then zrun zP sv C 109 68 [l0, l1, l2, l3, l4, l5, l6, l7, l8, l9, l10, l11] st h else zrun zP sv C 109 63 [l0, l1, l2, l3, l4, l5, l6, l7, l8, l9, l10, l11] st h := (zx_if rfl rfl).trans zc0_if
theorem zs_109_63 : zrun zP sv C 109 63 [l0, l1, l2, l3, l4, .val (.int x), l6, l7, l8, l9, l10, l11] st h = zrun zP sv C 109 65 [l0, l1, l2, l3, l4, .val (.int x), l6, l7, l8, l9, l10, l11] (.int x :: st) h := zx_go rfl rfl
theorem zs_109_65 : zrun zP sv C 109 65 [l0, l1, l2, l3, l4, l5, l6, l7, l8, l9, l10, l11] st h = zrun zP sv C 109 70 [l0, l1, l2, l3, l4, l5, l6, l7, l8, l9, l10, l11] st h := zx_go rfl rfl
theorem zs_109_68 : zrun zP sv C 109 68 [l0, l1, l2, l3, l4, l5, .val (.int x), l7, l8, l9, l10, l11] st h = zrun zP sv C 109 70 [l0, l1, l2, l3, l4, l5, .val (.int x), l7, l8, l9, l10, l11] (.int x :: st) h := zx_go rfl rfl
theorem zs_109_70 : zrun zP sv C 109 70 [l0, l1, l2, .val (.int x), l4, l5, l6, l7, l8, l9, l10, l11] st h = zrun zP sv C 109 71 [l0, l1, l2, .val (.int x), l4, l5, l6, l7, l8, l9, l10, l11] (.int x :: st) h := zx_go rfl rfl
theorem zs_109_71 : zrun zP sv C 109 71 [l0, l1, l2, l3, .val (.int x), l5, l6, l7, l8, l9, l10, l11] st h = zrun zP sv C 109 73 [l0, l1, l2, l3, .val (.int x), l5, l6, l7, l8, l9, l10, l11] (.int x :: st) h := zx_go rfl rfl
theorem zs_109_73 : zrun zP sv C 109 73 [l0, l1, l2, l3, l4, l5, l6, l7, l8, l9, l10, l11] st h = zrun zP sv C 109 74 [l0, l1, l2, l3, l4, l5, l6, l7, l8, l9, l10, l11] (.int (nI 1) :: st) h := zx_go rfl rfl
theorem zs_109_74 : zrun zP sv C 109 74 [l0, l1, l2, l3, l4, l5, l6, l7, l8, l9, l10, l11] (.int y :: .int x :: st) h = zrun zP sv C 109 75 [l0, l1, l2, l3, l4, l5, l6, l7, l8, l9, l10, l11] (.int (x + y) :: st) h := zx_go rfl rfl
theorem zs_109_75 : zrun zP sv C 109 75 [l0, l1, l2, l3, l4, l5, l6, l7, l8, l9, l10, l11] [v4, v3, v2, v1, .ref b] h = zrc (h.1 b) 12 (zbk (C 108 [.ref b, v1, v2, v3, v4] h) (fun v h' => zrun zP sv C 109 78 [l0, l1, l2, l3, l4, l5, l6, l7, l8, l9, l10, l11] (v.toList ++ []) h') (fun E h' => some (.inr E, h'))) := zx_cv (x0 := 12) rfl rfl rfl rfl rfl ⟨Nat.le_of_ble_eq_true rfl, rfl⟩ (fun _ _ => rfl)
theorem zs_109_78 : zrun zP sv C 109 78 [l0, l1, l2, .val (.int x), l4, l5, l6, l7, l8, l9, l10, l11] st h = zrun zP sv C 109 79 [l0, l1, l2, .val (.int x), l4, l5, l6, l7, l8, l9, l10, l11] (.int x :: st) h := zx_go rfl rfl
theorem zs_109_79 (hs : znw l9 = true) : zrun zP sv C 109 79 [l0, l1, l2, l3, l4, l5, l6, l7, l8, l9, l10, l11] (.int x :: st) h = zrun zP sv C 109 81 [l0, l1, l2, l3, l4, l5, l6, l7, l8, .val (.int x), l10, l11] st h := zx_st hs rfl rfl rfl rfl rfl rfl
theorem zs_109_81 : zrun zP sv C 109 81 [l0, l1, l2, .val (.int x), l4, l5, l6, l7, l8, l9, l10, l11] st h = zrun zP sv C 109 82 [l0, l1, l2, .val (.int x), l4, l5, l6, l7, l8, l9, l10, l11] (.int x :: st) h := zx_go rfl rfl
theorem zs_109_82 : zrun zP sv C 109 82 [l0, l1, l2, l3, l4, l5, l6, l7, l8, l9, l10, l11] st h = zrun zP sv C 109 83 [l0, l1, l2, l3, l4, l5, l6, l7, l8, l9, l10, l11] (.int (nI 1) :: st) h := zx_go rfl rfl
theorem zs_109_83 : zrun zP sv C 109 83 [l0, l1, l2, l3, l4, l5, l6, l7, l8, l9, l10, l11] (.int y :: .int x :: st) h = zrun zP sv C 109 84 [l0, l1, l2, l3, l4, l5, l6, l7, l8, l9, l10, l11] (.int (x + y) :: st) h := zx_go rfl rfl
theorem zs_109_84 (hs : znw l10 = true) : zrun zP sv C 109 84 [l0, l1, l2, l3, l4, l5, l6, l7, l8, l9, l10, l11] (.int x :: st) h = zrun zP sv C 109 86 [l0, l1, l2, l3, l4, l5, l6, l7, l8, l9, .val (.int x), l11] st h := zx_st hs rfl rfl rfl rfl rfl rfl
theorem zs_109_86 : zrun zP sv C 109 86 [.val (.ref a), l1, l2, l3, l4, l5, l6, l7, l8, l9, l10, l11] st h = zrun zP sv C 109 87 [.val (.ref a), l1, l2, l3, l4, l5, l6, l7, l8, l9, l10, l11] (.ref a :: st) h := zx_go rfl rfl
theorem zs_109_87 : zrun zP sv C 109 87 [l0, l1, l2, l3, l4, l5, l6, l7, l8, l9, l10, l11] (.ref a :: st) h = zfld (h.1 a) 12 6 (fun v => zrun zP sv C 109 90 [l0, l1, l2, l3, l4, l5, l6, l7, l8, l9, l10, l11] (v :: st) h) := zx_getf rfl rfl
theorem zs_109_90 : zrun zP sv C 109 90 [l0, l1, l2, l3, l4, l5, l6, l7, .val (.int x), l9, l10, l11] st h = zrun zP sv C 109 92 [l0, l1, l2, l3, l4, l5, l6, l7, .val (.int x), l9, l10, l11] (.int x :: st) h := zx_go rfl rfl
theorem zs_109_92 : zrun zP sv C 109 92 [l0, l1, l2, l3, l4, l5, l6, l7, l8, l9, l10, l11] [v1, .ref b] h = zrc (h.1 b) 10 (zbk (C 126 [.ref b, v1] h) (fun v h' => zrun zP sv C 109 95 [l0, l1, l2, l3, l4, l5, l6, l7, l8, l9, l10, l11] (v.toList ++ []) h') (fun E h' => some (.inr E, h'))) := zx_cv (x0 := 10) rfl rfl rfl rfl rfl ⟨Nat.le_of_ble_eq_true rfl, rfl⟩ (fun _ _ => rfl)
theorem zs_109_95 : zrun zP sv C 109 95 [.val (.ref a), l1, l2, l3, l4, l5, l6, l7, l8, l9, l10, l11] st h = zrun zP sv C 109 96 [.val (.ref a), l1, l2, l3, l4, l5, l6, l7, l8, l9, l10, l11] (.ref a :: st) h := zx_go rfl rfl
theorem zs_109_96 : zrun zP sv C 109 96 [l0, l1, l2, l3, l4, l5, l6, l7, l8, l9, l10, l11] (.ref a :: st) h = zfld (h.1 a) 12 9 (fun v => zrun zP sv C 109 99 [l0, l1, l2, l3, l4, l5, l6, l7, l8, l9, l10, l11] (v :: st) h) := zx_getf rfl rfl
theorem zs_109_99 : zrun zP sv C 109 99 [l0, l1, l2, .val (.int x), l4, l5, l6, l7, l8, l9, l10, l11] st h = zrun zP sv C 109 100 [l0, l1, l2, .val (.int x), l4, l5, l6, l7, l8, l9, l10, l11] (.int x :: st) h := zx_go rfl rfl
theorem zs_109_100 : zrun zP sv C 109 100 [l0, l1, l2, l3, l4, l5, l6, l7, l8, l9, l10, l11] (.int y :: .int x :: st) h = zrun zP sv C 109 101 [l0, l1, l2, l3, l4, l5, l6, l7, l8, l9, l10, l11] (.int (x - y) :: st) h := zx_go rfl rfl
theorem zs_109_101 : zrun zP sv C 109 101 [l0, l1, l2, l3, l4, l5, l6, l7, l8, l9, l10, l11] (.int y :: .int x :: st) h = if x < y then zrun zP sv C 109 104 [l0, l1, l2, l3, l4, l5, l6, l7, l8, l9, l10, l11] st h else zrun zP sv C 109 121 [l0, l1, l2, l3, l4, l5, l6, l7, l8, l9, l10, l11] st h := (zx_ic rfl rfl).trans zc3_if
theorem zs_109_104 : zrun zP sv C 109 104 [.val (.ref a), l1, l2, l3, l4, l5, l6, l7, l8, l9, l10, l11] st h = zrun zP sv C 109 105 [.val (.ref a), l1, l2, l3, l4, l5, l6, l7, l8, l9, l10, l11] (.ref a :: st) h := zx_go rfl rfl
theorem zs_109_105 : zrun zP sv C 109 105 [l0, .val (.ref a), l2, l3, l4, l5, l6, l7, l8, l9, l10, l11] st h = zrun zP sv C 109 106 [l0, .val (.ref a), l2, l3, l4, l5, l6, l7, l8, l9, l10, l11] (.ref a :: st) h := zx_go rfl rfl
theorem zs_109_106 : zrun zP sv C 109 106 [l0, l1, l2, l3, l4, l5, l6, l7, .val (.int x), l9, l10, l11] st h = zrun zP sv C 109 108 [l0, l1, l2, l3, l4, l5, l6, l7, .val (.int x), l9, l10, l11] (.int x :: st) h := zx_go rfl rfl
theorem zs_109_108 : zrun zP sv C 109 108 [l0, l1, l2, .val (.int x), l4, l5, l6, l7, l8, l9, l10, l11] st h = zrun zP sv C 109 109 [l0, l1, l2, .val (.int x), l4, l5, l6, l7, l8, l9, l10, l11] (.int x :: st) h := zx_go rfl rfl
theorem zs_109_109 : zrun zP sv C 109 109 [l0, l1, l2, l3, l4, l5, l6, l7, l8, l9, l10, l11] st h = zrun zP sv C 109 110 [l0, l1, l2, l3, l4, l5, l6, l7, l8, l9, l10, l11] (.int (nI 1) :: st) h := zx_go rfl rfl
theorem zs_109_110 : zrun zP sv C 109 110 [l0, l1, l2, l3, l4, l5, l6, l7, l8, l9, l10, l11] (.int y :: .int x :: st) h = zrun zP sv C 109 111 [l0, l1, l2, l3, l4, l5, l6, l7, l8, l9, l10, l11] (.int (x + y) :: st) h := zx_go rfl rfl
theorem zs_109_111 : zrun zP sv C 109 111 [l0, l1, l2, l3, .val (.int x), l5, l6, l7, l8, l9, l10, l11] st h = zrun zP sv C 109 113 [l0, l1, l2, l3, .val (.int x), l5, l6, l7, l8, l9, l10, l11] (.int x :: st) h := zx_go rfl rfl
theorem zs_109_113 : zrun zP sv C 109 113 [l0, l1, l2, l3, l4, l5, l6, l7, l8, l9, l10, l11] st h = zrun zP sv C 109 114 [l0, l1, l2, l3, l4, l5, l6, l7, l8, l9, l10, l11] (.int (nI 1) :: st) h := zx_go rfl rfl
theorem zs_109_114 : zrun zP sv C 109 114 [l0, l1, l2, l3, l4, l5, l6, l7, l8, l9, l10, l11] (.int y :: .int x :: st) h = zrun zP sv C 109 115 [l0, l1, l2, l3, l4, l5, l6, l7, l8, l9, l10, l11] (.int (x + y) :: st) h := zx_go rfl rfl
theorem zs_109_115 : zrun zP sv C 109 115 [l0, l1, l2, l3, l4, l5, l6, l7, l8, l9, l10, l11] [v4, v3, v2, v1, .ref b] h = zrc (h.1 b) 12 (zbk (C 108 [.ref b, v1, v2, v3, v4] h) (fun v h' => zrun zP sv C 109 118 [l0, l1, l2, l3, l4, l5, l6, l7, l8, l9, l10, l11] (v.toList ++ []) h') (fun E h' => some (.inr E, h'))) := zx_cv (x0 := 12) rfl rfl rfl rfl rfl ⟨Nat.le_of_ble_eq_true rfl, rfl⟩ (fun _ _ => rfl)
theorem zs_109_118 : zrun zP sv C 109 118 [l0, l1, l2, l3, l4, l5, l6, l7, l8, l9, l10, l11] st h = zrun zP sv C 109 169 [l0, l1, l2, l3, l4, l5, l6, l7, l8, l9, l10, l11] st h := zx_go rfl rfl
theorem zs_109_121 : zrun zP sv C 109 121 [.val (.ref a), l1, l2, l3, l4, l5, l6, l7, l8, l9, l10, l11] st h = zrun zP sv C 109 122 [.val (.ref a), l1, l2, l3, l4, l5, l6, l7, l8, l9, l10, l11] (.ref a :: st) h := zx_go rfl rfl
theorem zs_109_122 : zrun zP sv C 109 122 [l0, l1, l2, l3, l4, l5, l6, l7, l8, l9, l10, l11] [.ref b] h = zrc (h.1 b) 12 (zbk (C 110 [.ref b] h) (fun v h' => zrun zP sv C 109 125 [l0, l1, l2, l3, l4, l5, l6, l7, l8, l9, l10, l11] (v.toList ++ []) h') (fun E h' => some (.inr E, h'))) := zx_cv (x0 := 12) rfl rfl rfl rfl rfl ⟨Nat.le_of_ble_eq_true rfl, rfl⟩ (fun _ _ => rfl)
theorem zs_109_125 (hs : znw l11 = true) : zrun zP sv C 109 125 [l0, l1, l2, l3, l4, l5, l6, l7, l8, l9, l10, l11] (.int x :: st) h = zrun zP sv C 109 127 [l0, l1, l2, l3, l4, l5, l6, l7, l8, l9, l10, .val (.int x)] st h := zx_st hs rfl rfl rfl rfl rfl rfl
theorem zs_109_127 : zrun zP sv C 109 127 [.val (.ref a), l1, l2, l3, l4, l5, l6, l7, l8, l9, l10, l11] st h = zrun zP sv C 109 128 [.val (.ref a), l1, l2, l3, l4, l5, l6, l7, l8, l9, l10, l11] (.ref a :: st) h := zx_go rfl rfl
theorem zs_109_128 : zrun zP sv C 109 128 [l0, l1, l2, l3, l4, l5, l6, l7, l8, l9, l10, l11] st h = zrun zP sv C 109 130 [l0, l1, l2, l3, l4, l5, l6, l7, l8, l9, l10, l11] (.int (nI 115) :: st) h := zx_go rfl rfl
theorem zs_109_130 : zrun zP sv C 109 130 [l0, l1, l2, .val (.int x), l4, l5, l6, l7, l8, l9, l10, l11] st h = zrun zP sv C 109 131 [l0, l1, l2, .val (.int x), l4, l5, l6, l7, l8, l9, l10, l11] (.int x :: st) h := zx_go rfl rfl
theorem zs_109_131 : zrun zP sv C 109 131 [l0, l1, l2, l3, l4, l5, l6, l7, l8, l9, l10, .val (.int x)] st h = zrun zP sv C 109 133 [l0, l1, l2, l3, l4, l5, l6, l7, l8, l9, l10, .val (.int x)] (.int x :: st) h := zx_go rfl rfl
theorem zs_109_133 : zrun zP sv C 109 133 [l0, l1, l2, .val (.int x), l4, l5, l6, l7, l8, l9, l10, l11] st h = zrun zP sv C 109 134 [l0, l1, l2, .val (.int x), l4, l5, l6, l7, l8, l9, l10, l11] (.int x :: st) h := zx_go rfl rfl
theorem zs_109_134 : zrun zP sv C 109 134 [l0, l1, l2, l3, l4, l5, l6, l7, l8, l9, l10, l11] st h = zrun zP sv C 109 135 [l0, l1, l2, l3, l4, l5, l6, l7, l8, l9, l10, l11] (.int (-1) :: st) h := zx_go rfl rfl
theorem zs_109_135 : zrun zP sv C 109 135 [l0, l1, l2, l3, l4, l5, l6, l7, l8, l9, l10, l11] [v5, v4, v3, v2, v1, .ref b] h = zrc (h.1 b) 12 (zbk (C 111 [.ref b, v1, v2, v3, v4, v5] h) (fun v h' => zrun zP sv C 109 138 [l0, l1, l2, l3, l4, l5, l6, l7, l8, l9, l10, l11] (v.toList ++ []) h') (fun E h' => some (.inr E, h'))) := zx_cv (x0 := 12) rfl rfl rfl rfl rfl ⟨Nat.le_of_ble_eq_true rfl, rfl⟩ (fun _ _ => rfl)
theorem zs_109_138 : zrun zP sv C 109 138 [.val (.ref a), l1, l2, l3, l4, l5, l6, l7, l8, l9, l10, l11] st h = zrun zP sv C 109 139 [.val (.ref a), l1, l2, l3, l4, l5, l6, l7, l8, l9, l10, l11] (.ref a :: st) h := zx_go rfl rfl
theorem zs_109_139 : zrun zP sv C 109 139 [l0, .val (.ref a), l2, l3, l4, l5, l6, l7, l8, l9, l10, l11] st h = zrun zP sv C 109 140 [l0, .val (.ref a), l2, l3, l4, l5, l6, l7, l8, l9, l10, l11] (.ref a :: st) h := zx_go rfl rfl
theorem zs_109_140 : zrun zP sv C 109 140 [l0, l1, l2, l3, l4, l5, l6, l7, .val (.int x), l9, l10, l11] st h = zrun zP sv C 109 142 [l0, l1, l2, l3, l4, l5, l6, l7, .val (.int x), l9, l10, l11] (.int x :: st) h := zx_go rfl rfl
theorem zs_109_142 : zrun zP sv C 109 142 [l0, l1, l2, .val (.int x), l4, l5, l6, l7, l8, l9, l10, l11] st h = zrun zP sv C 109 143 [l0, l1, l2, .val (.int x), l4, l5, l6, l7, l8, l9, l10, l11] (.int x :: st) h := zx_go rfl rfl
theorem zs_109_143 : zrun zP sv C 109 143 [l0, l1, l2, l3, .val (.int x), l5, l6, l7, l8, l9, l10, l11] st h = zrun zP sv C 109 145 [l0, l1, l2, l3, .val (.int x), l5, l6, l7, l8, l9, l10, l11] (.int x :: st) h := zx_go rfl rfl
theorem zs_109_145 : zrun zP sv C 109 145 [l0, l1, l2, l3, l4, l5, l6, l7, l8, l9, l10, l11] st h = zrun zP sv C 109 146 [l0, l1, l2, l3, l4, l5, l6, l7, l8, l9, l10, l11] (.int (nI 1) :: st) h := zx_go rfl rfl
theorem zs_109_146 : zrun zP sv C 109 146 [l0, l1, l2, l3, l4, l5, l6, l7, l8, l9, l10, l11] (.int y :: .int x :: st) h = zrun zP sv C 109 147 [l0, l1, l2, l3, l4, l5, l6, l7, l8, l9, l10, l11] (.int (x + y) :: st) h := zx_go rfl rfl
theorem zs_109_147 : zrun zP sv C 109 147 [l0, l1, l2, l3, l4, l5, l6, l7, l8, l9, l10, l11] [v4, v3, v2, v1, .ref b] h = zrc (h.1 b) 12 (zbk (C 108 [.ref b, v1, v2, v3, v4] h) (fun v h' => zrun zP sv C 109 150 [l0, l1, l2, l3, l4, l5, l6, l7, l8, l9, l10, l11] (v.toList ++ []) h') (fun E h' => some (.inr E, h'))) := zx_cv (x0 := 12) rfl rfl rfl rfl rfl ⟨Nat.le_of_ble_eq_true rfl, rfl⟩ (fun _ _ => rfl)
theorem zs_109_150 : zrun zP sv C 109 150 [.val (.ref a), l1, l2, l3, l4, l5, l6, l7, l8, l9, l10, l11] st h = zrun zP sv C 109 151 [.val (.ref a), l1, l2, l3, l4, l5, l6, l7, l8, l9, l10, l11] (.ref a :: st) h := zx_go rfl rfl
theorem zs_109_151 : zrun zP sv C 109 151 [l0, l1, l2, l3, l4, l5, l6, l7, l8, l9, l10, l11] (.ref a :: st) h = zfld (h.1 a) 12 7 (fun v => zrun zP sv C 109 154 [l0, l1, l2, l3, l4, l5, l6, l7, l8, l9, l10, l11] (v :: st) h) := zx_getf rfl rfl
theorem zs_109_154 : zrun zP sv C 109 154 [l0, l1, l2, l3, l4, l5, l6, l7, l8, l9, l10, .val (.int x)] st h = zrun zP sv C 109 156 [l0, l1, l2, l3, l4, l5, l6, l7, l8, l9, l10, .val (.int x)] (.int x :: st) h := zx_go rfl rfl
theorem zs_109_156 : zrun zP sv C 109 156 [l0, l1, l2, l3, l4, l5, l6, l7, l8, l9, l10, l11] st h = zrun zP sv C 109 157 [l0, l1, l2, l3, l4, l5, l6, l7, l8, l9, l10, l11] (.int 0 :: st) h := zx_go rfl rfl
theorem zs_109_157 : zrun zP sv C 109 157 [l0, l1, l2, l3, l4, l5, l6, l7, l8, l9, l10, l11] [v2, v1, .ref b] h = zrc (h.1 b) 4 (zbk (C 166 [.ref b, v1, v2] h) (fun v h' => zrun zP sv C 109 160 [l0, l1, l2, l3, l4, l5, l6, l7, l8, l9, l10, l11] (v.toList ++ []) h') (fun E h' => some (.inr E, h'))) := zx_cv (x0 := 4) rfl rfl rfl rfl rfl ⟨Nat.le_of_ble_eq_true rfl, rfl⟩ (fun _ _ => rfl)
theorem zs_109_160 : zrun zP sv C 109 160 [l0, l1, l2, l3, l4, l5, l6, l7, l8, l9, l10, l11] st h = zrun zP sv C 109 161 [l0, l1, l2, l3, l4, l5, l6, l7, l8, l9, l10, l11] (.int (nI 4) :: st) h := zx_go rfl rfl
theorem zs_109_161 : zrun zP sv C 109 161 [l0, l1, l2, l3, l4, l5, l6, l7, l8, l9, l10, .val (.int x)] st h = zrun zP sv C 109 163 [l0, l1, l2, l3, l4, l5, l6, l7, l8, l9, l10, .val (.int x)] (.int x :: st) h := zx_go rfl rfl
theorem zs_109_163 : zrun zP sv C 109 163 [l0, l1, l2, l3, l4, l5, l6, l7, l8, l9, l10, l11] (.int y :: .int x :: st) h = zrun zP sv C 109 164 [l0, l1, l2, l3, l4, l5, l6, l7, l8, l9, l10, l11] (.int (x + y) :: st) h := zx_go rfl rfl
theorem zs_109_164 (hs : znw l9 = true) : zrun zP sv C 109 164 [l0, l1, l2, l3, l4, l5, l6, l7, l8, l9, l10, l11] (.int x :: st) h = zrun zP sv C 109 166 [l0, l1, l2, l3, l4, l5, l6, l7, l8, .val (.int x), l10, l11] st h := zx_st hs rfl rfl rfl rfl rfl rfl
theorem zs_109_166 : zrun zP sv C 109 166 [l0, l1, l2, .val (.int x), l4, l5, l6, l7, l8, l9, l10, l11] st h = zrun zP sv C 109 167 [l0, l1, l2, .val (.int x), l4, l5, l6, l7, l8, l9, l10, l11] (.int x :: st) h := zx_go rfl rfl
theorem zs_109_167 (hs : znw l10 = true) : zrun zP sv C 109 167 [l0, l1, l2, l3, l4, l5, l6, l7, l8, l9, l10, l11] (.int x :: st) h = zrun zP sv C 109 169 [l0, l1, l2, l3, l4, l5, l6, l7, l8, l9, .val (.int x), l11] st h := zx_st hs rfl rfl rfl rfl rfl rfl
theorem zs_109_169 : zrun zP sv C 109 169 [.val (.ref a), l1, l2, l3, l4, l5, l6, l7, l8, l9, l10, l11] st h = zrun zP sv C 109 170 [.val (.ref a), l1, l2, l3, l4, l5, l6, l7, l8, l9, l10, l11] (.ref a :: st) h := zx_go rfl rfl
theorem zs_109_170 : zrun zP sv C 109 170 [l0, .val (.ref a), l2, l3, l4, l5, l6, l7, l8, l9, l10, l11] st h = zrun zP sv C 109 171 [l0, .val (.ref a), l2, l3, l4, l5, l6, l7, l8, l9, l10, l11] (.ref a :: st) h := zx_go rfl rfl
theorem zs_109_171 : zrun zP sv C 109 171 [l0, l1, .val (.int x), l3, l4, l5, l6, l7, l8, l9, l10, l11] st h = zrun zP sv C 109 172 [l0, l1, .val (.int x), l3, l4, l5, l6, l7, l8, l9, l10, l11] (.int x :: st) h := zx_go rfl rfl
theorem zs_109_172 : zrun zP sv C 109 172 [l0, l1, l2, l3, l4, l5, l6, l7, l8, l9, l10, l11] [v1, .ref b, r0] h = zrc (h.1 b) 6 (zbk (C 184 [.ref b, v1] h) (fun v h' => zrun zP sv C 109 175 [l0, l1, l2, l3, l4, l5, l6, l7, l8, l9, l10, l11] (v.toList ++ [r0]) h') (fun E h' => some (.inr E, h'))) := zx_cv (x0 := 6) rfl rfl rfl rfl rfl ⟨Nat.le_of_ble_eq_true rfl, rfl⟩ (fun _ _ => rfl)
theorem zs_109_175 : zrun zP sv C 109 175 [l0, l1, l2, .val (.int x), l4, l5, l6, l7, l8, l9, l10, l11] st h = zrun zP sv C 109 176 [l0, l1, l2, .val (.int x), l4, l5, l6, l7, l8, l9, l10, l11] (.int x :: st) h := zx_go rfl rfl
theorem zs_109_176 : zrun zP sv C 109 176 [l0, l1, l2, l3, l4, l5, l6, l7, l8, l9, l10, l11] st h = zrun zP sv C 109 177 [l0, l1, l2, l3, l4, l5, l6, l7, l8, l9, l10, l11] (.int 0 :: st) h := zx_go rfl rfl
theorem zs_109_177 : zrun zP sv C 109 177 [l0, l1, l2, l3, l4, l5, l6, .val (.int x), l8, l9, l10, l11] st h = zrun zP sv C 109 179 [l0, l1, l2, l3, l4, l5, l6, .val (.int x), l8, l9, l10, l11] (.int x :: st) h := zx_go rfl rfl
theorem zs_109_179 : zrun zP sv C 109 179 [l0, l1, l2, l3, l4, l5, l6, l7, l8, l9, l10, l11] (.int x :: st) h = if x = 0 then zrun zP sv C 109 187 [l0, l1, l2, l3, l4, l5, l6, l7, l8, l9, l10, l11] st h else zrun zP sv C 109 182 [l0, l1, l2, l3, l4, l5, l6, l7, l8, l9, l10, l11] st h := (zx_if rfl rfl).trans zc0_if
theorem zs_109_182 : zrun zP sv C 109 182 [l0, l1, l2, l3, l4, l5, l6, l7, l8, .val (.int x), l10, l11] st h = zrun zP sv C 109 184 [l0, l1, l2, l3, l4, l5, l6, l7, l8, .val (.int x), l10, l11] (.int x :: st) h := zx_go rfl rfl
theorem zs_109_184 : zrun zP sv C 109 184 [l0, l1, l2, l3, l4, l5, l6, l7, l8, l9, l10, l11] st h = zrun zP sv C 109 189 [l0, l1, l2, l3, l4, l5, l6, l7, l8, l9, l10, l11] st h := zx_go rfl rfl
theorem zs_109_187 : zrun zP sv C 109 187 [l0, l1, l2, l3, l4, l5, l6, l7, l8, l9, .val (.int x), l11] st h = zrun zP sv C 109 189 [l0, l1, l2, l3, l4, l5, l6, l7, l8, l9, .val (.int x), l11] (.int x :: st) h := zx_go rfl rfl
theorem zs_109_189 : zrun zP sv C 109 189 [l0, l1, l2, l3, l4, l5, l6, .val (.int x), l8, l9, l10, l11] st h = zrun zP sv C 109 191 [l0, l1, l2, l3, l4, l5, l6, .val (.int x), l8, l9, l10, l11] (.int x :: st) h := zx_go rfl rfl
theorem zs_109_191 : zrun zP sv C 109 191 [l0, l1, l2, l3, l4, l5, l6, l7, l8, l9, l10, l11] (.int x :: st) h = if x = 0 then zrun zP sv C 109 199 [l0, l1, l2, l3, l4, l5, l6, l7, l8, l9, l10, l11] st h else zrun zP sv C 109 194 [l0, l1, l2, l3, l4, l5, l6, l7, l8, l9, l10, l11] st h := (zx_if rfl rfl).trans zc0_if
theorem zs_109_194 : zrun zP sv C 109 194 [l0, l1, l2, l3, l4, l5, l6, l7, l8, l9, .val (.int x), l11] st h = zrun zP sv C 109 196 [l0, l1, l2, l3, l4, l5, l6, l7, l8, l9, .val (.int x), l11] (.int x :: st) h := zx_go rfl rfl
theorem zs_109_196 : zrun zP sv C 109 196 [l0, l1, l2, l3, l4, l5, l6, l7, l8, l9, l10, l11] st h = zrun zP sv C 109 201 [l0, l1, l2, l3, l4, l5, l6, l7, l8, l9, l10, l11] st h := zx_go rfl rfl
theorem zs_109_199 : zrun zP sv C 109 199 [l0, l1, l2, l3, l4, l5, l6, l7, l8, .val (.int x), l10, l11] st h = zrun zP sv C 109 201 [l0, l1, l2, l3, l4, l5, l6, l7, l8, .val (.int x), l10, l11] (.int x :: st) h := zx_go rfl rfl
theorem zs_109_201 : zrun zP sv C 109 201 [l0, l1, l2, l3, l4, l5, l6, l7, l8, l9, l10, l11] [v5, v4, v3, v2, v1, .ref b] h = zrc (h.1 b) 12 (zbk (C 111 [.ref b, v1, v2, v3, v4, v5] h) (fun v h' => zrun zP sv C 109 204 [l0, l1, l2, l3, l4, l5, l6, l7, l8, l9, l10, l11] (v.toList ++ []) h') (fun E h' => some (.inr E, h'))) := zx_cv (x0 := 12) rfl rfl rfl rfl rfl ⟨Nat.le_of_ble_eq_true rfl, rfl⟩ (fun _ _ => rfl)
theorem zs_109_204 : zrun zP sv C 109 204 [l0, l1, l2, l3, l4, l5, l6, l7, l8, l9, l10, l11] [] h = some (.inl none, h) := zx_end rfl rfl
theorem zs_110_0 : zrun zP sv C 110 0 [l0, l1] st h = zrun zP sv C 110 1 [l0, l1] (.int 0 :: st) h := zx_go rfl rfl
theorem zs_110_1 (hs : znw l1 = true) : zrun zP sv C 110 1 [l0, l1] (.int x :: st) h = zrun zP sv C 110 2 [l0, .val (.int x)] st h := zx_st hs rfl rfl rfl rfl rfl rfl
theorem zs_110_2 : zrun zP sv C 110 2 [l0, .val (.int x)] st h = zrun zP sv C 110 3 [l0, .val (.int x)] (.int x :: st) h := zx_go rfl rfl
theorem zs_110_3 : zrun zP sv C 110 3 [l0, l1] st h = zrun zP sv C 110 5 [l0, l1] (.int (nI 7) :: st) h := zx_go rfl rfl
theorem zs_110_5 : zrun zP sv C 110 5 [l0, l1] (.int y :: .int x :: st) h = if x < y then zrun zP sv C 110 8 [l0, l1] st h else zrun zP sv C 110 25 [l0, l1] st h := (zx_ic rfl rfl).trans zc3_if
theorem zs_110_8 : zrun zP sv C 110 8 [.val (.ref a), l1] st h = zrun zP sv C 110 9 [.val (.ref a), l1] (.ref a :: st) h := zx_go rfl rfl
theorem zs_110_9 : zrun zP sv C 110 9 [l0, l1] (.ref a :: st) h = zfld (h.1 a) 12 7 (fun v => zrun zP sv C 110 12 [l0, l1] (v :: st) h) := zx_getf rfl rfl
theorem zs_110_12 : zrun zP sv C 110 12 [l0, .val (.int x)] st h = zrun zP sv C 110 13 [l0, .val (.int x)] (.int x :: st) h := zx_go rfl rfl
theorem zs_110_13 : zrun zP sv C 110 13 [l0, l1] [v1, .ref b] h = zrc (h.1 b) 4 (zbk (C 165 [.ref b, v1] h) (fun v h' => zrun zP sv C 110 16 [l0, l1] (v.toList ++ []) h') (fun E h' => some (.inr E, h'))) := zx_cv (x0 := 4) rfl rfl rfl rfl rfl ⟨Nat.le_of_ble_eq_true rfl, rfl⟩ (fun _ _ => rfl)
theorem zs_110_16 : zrun zP sv C 110 16 [l0, l1] (.int x :: st) h = if x = 0 then zrun zP sv C 110 25 [l0, l1] st h else zrun zP sv C 110 19 [l0, l1] st h := (zx_if rfl rfl).trans zc0_if
theorem zs_110_19 : zrun zP sv C 110 19 [l0, .val (.int x)] st h = zrun zP sv C 110 22 [l0, .val (.int (x + (nI 1)))] st h := zx_ii rfl rfl rfl rfl rfl
theorem zs_110_22 : zrun zP sv C 110 22 [l0, l1] st h = zrun zP sv C 110 2 [l0, l1] st h := zx_go rfl rfl
theorem zs_110_25 : zrun zP sv C 110 25 [.val (.ref a), l1] st h = zrun zP sv C 110 26 [.val (.ref a), l1] (.ref a :: st) h := zx_go rfl rfl
theorem zs_110_26 : zrun zP sv C 110 26 [l0, l1] (.ref a :: st) h = zfld (h.1 a) 12 7 (fun v => zrun zP sv C 110 29 [l0, l1] (v :: st) h) := zx_getf rfl rfl
theorem zs_110_29 : zrun zP sv C 110 29 [l0, .val (.int x)] st h = zrun zP sv C 110 30 [l0, .val (.int x)] (.int x :: st) h := zx_go rfl rfl
theorem zs_110_30 : zrun zP sv C 110 30 [l0, l1] st h = zrun zP sv C 110 31 [l0, l1] (.int (nI 1) :: st) h := zx_go rfl rfl
theorem zs_110_31 : zrun zP sv C 110 31 [l0, l1] [v2, v1, .ref b] h = zrc (h.1 b) 4 (zbk (C 166 [.ref b, v1, v2] h) (fun v h' => zrun zP sv C 110 34 [l0, l1] (v.toList ++ []) h') (fun E h' => some (.inr E, h'))) := zx_cv (x0 := 4) rfl rfl rfl rfl rfl ⟨Nat.le_of_ble_eq_true rfl, rfl⟩ (fun _ _ => rfl)
theorem zs_110_34 : zrun zP sv C 110 34 [l0, .val (.int x)] st h = zrun zP sv C 110 35 [l0, .val (.int x)] (.int x :: st) h := zx_go rfl rfl
theorem zs_110_35 : zrun zP sv C 110 35 [l0, l1] [.int x] h = some (.inl (some (.int x)), h) := zx_end rfl rfl
theorem zs_111_0 : zrun zP sv C 111 0 [.val (.ref a), l1, l2, l3, l4, l5] st h = zrun zP sv C 111 1 [.val (.ref a), l1, l2, l3, l4, l5] (.ref a :: st) h := zx_go rfl rfl
theorem zs_111_1 : zrun zP sv C 111 1 [l0, l1, l2, l3, l4, l5] (.ref a :: st) h = zfld (h.1 a) 12 5 (fun v => zrun zP sv C 111 4 [l0, l1, l2, l3, l4, l5] (v :: st) h) := zx_getf rfl rfl
theorem zs_111_4 : zrun zP sv C 111 4 [l0, l1, l2, l3, l4, l5] st h = zrun zP sv C 111 6 [l0, l1, l2, l3, l4, l5] (.int (nI 62) :: st) h := zx_go rfl rfl
theorem zs_111_6 : zrun zP sv C 111 6 [l0, l1, l2, l3, l4, l5] (.int y :: .int x :: st) h = if x < y then zrun zP sv C 111 9 [l0, l1, l2, l3, l4, l5] st h else zrun zP sv C 111 81 [l0, l1, l2, l3, l4, l5] st h := (zx_ic rfl rfl).trans zc3_if
theorem zs_111_9 : zrun zP sv C 111 9 [.val (.ref a), l1, l2, l3, l4, l5] st h = zrun zP sv C 111 10 [.val (.ref a), l1, l2, l3, l4, l5] (.ref a :: st) h := zx_go rfl rfl
theorem zs_111_10 : zrun zP sv C 111 10 [l0, l1, l2, l3, l4, l5] (.ref a :: st) h = zfld (h.1 a) 12 0 (fun v => zrun zP sv C 111 13 [l0, l1, l2, l3, l4, l5] (v :: st) h) := zx_getf rfl rfl
theorem zs_111_13 : zrun zP sv C 111 13 [.val (.ref a), l1, l2, l3, l4, l5] st h = zrun zP sv C 111 14 [.val (.ref a), l1, l2, l3, l4, l5] (.ref a :: st) h := zx_go rfl rfl
theorem zs_111_14 : zrun zP sv C 111 14 [l0, l1, l2, l3, l4, l5] (.ref a :: st) h = zfld (h.1 a) 12 5 (fun v => zrun zP sv C 111 17 [l0, l1, l2, l3, l4, l5] (v :: st) h) := zx_getf rfl rfl
theorem zs_111_17 : zrun zP sv C 111 17 [l0, .val (.int x), l2, l3, l4, l5] st h = zrun zP sv C 111 18 [l0, .val (.int x), l2, l3, l4, l5] (.int x :: st) h := zx_go rfl rfl
theorem zs_111_18 : zrun zP sv C 111 18 [l0, l1, l2, l3, l4, l5] [v2, v1, .ref b] h = zrc (h.1 b) 4 (zbk (C 166 [.ref b, v1, v2] h) (fun v h' => zrun zP sv C 111 21 [l0, l1, l2, l3, l4, l5] (v.toList ++ []) h') (fun E h' => some (.inr E, h'))) := zx_cv (x0 := 4) rfl rfl rfl rfl rfl ⟨Nat.le_of_ble_eq_true rfl, rfl⟩ (fun _ _ => rfl)
theorem zs_111_21 : zrun zP sv C 111 21 [.val (.ref a), l1, l2, l3, l4, l5] st h = zrun zP sv C 111 22 [.val (.ref a), l1, l2, l3, l4, l5] (.ref a :: st) h := zx_go rfl rfl
theorem zs_111_22 : zrun zP sv C 111 22 [l0, l1, l2, l3, l4, l5] (.ref a :: st) h = zfld (h.1 a) 12 1 (fun v => zrun zP sv C 111 25 [l0, l1, l2, l3, l4, l5] (v :: st) h) := zx_getf rfl rfl
theorem zs_111_25 : zrun zP sv C 111 25 [.val (.ref a), l1, l2, l3, l4, l5] st h = zrun zP sv C 111 26 [.val (.ref a), l1, l2, l3, l4, l5] (.ref a :: st) h := zx_go rfl rfl
theorem zs_111_26 : zrun zP sv C 111 26 [l0, l1, l2, l3, l4, l5] (.ref a :: st) h = zfld (h.1 a) 12 5 (fun v => zrun zP sv C 111 29 [l0, l1, l2, l3, l4, l5] (v :: st) h) := zx_getf rfl rfl
theorem zs_111_29 : zrun zP sv C 111 29 [l0, l1, .val (.int x), l3, l4, l5] st h = zrun zP sv C 111 30 [l0, l1, .val (.int x), l3, l4, l5] (.int x :: st) h := zx_go rfl rfl
theorem zs_111_30 : zrun zP sv C 111 30 [l0, l1, l2, l3, l4, l5] [v2, v1, .ref b] h = zrc (h.1 b) 4 (zbk (C 166 [.ref b, v1, v2] h) (fun v h' => zrun zP sv C 111 33 [l0, l1, l2, l3, l4, l5] (v.toList ++ []) h') (fun E h' => some (.inr E, h'))) := zx_cv (x0 := 4) rfl rfl rfl rfl rfl ⟨Nat.le_of_ble_eq_true rfl, rfl⟩ (fun _ _ => rfl)
theorem zs_111_33 : zrun zP sv C 111 33 [.val (.ref a), l1, l2, l3, l4, l5] st h = zrun zP sv C 111 34 [.val (.ref a), l1, l2, l3, l4, l5] (.ref a :: st) h := zx_go rfl rfl
theorem zs_111_34 : zrun zP sv C 111 34 [l0, l1, l2, l3, l4, l5] (.ref a :: st) h = zfld (h.1 a) 12 2 (fun v => zrun zP sv C 111 37 [l0, l1, l2, l3, l4, l5] (v :: st) h) := zx_getf rfl rfl
theorem zs_111_37 : zrun zP sv C 111 37 [.val (.ref a), l1, l2, l3, l4, l5] st h = zrun zP sv C 111 38 [.val (.ref a), l1, l2, l3, l4, l5] (.ref a :: st) h := zx_go rfl rfl
theorem zs_111_38 : zrun zP sv C 111 38 [l0, l1, l2, l3, l4, l5] (.ref a :: st) h = zfld (h.1 a) 12 5 (fun v => zrun zP sv C 111 41 [l0, l1, l2, l3, l4, l5] (v :: st) h) := zx_getf rfl rfl
theorem zs_111_41 : zrun zP sv C 111 41 [l0, l1, l2, .val (.int x), l4, l5] st h = zrun zP sv C 111 42 [l0, l1, l2, .val (.int x), l4, l5] (.int x :: st) h := zx_go rfl rfl
theorem zs_111_42 : zrun zP sv C 111 42 [l0, l1, l2, l3, l4, l5] [v2, v1, .ref b] h = zrc (h.1 b) 4 (zbk (C 166 [.ref b, v1, v2] h) (fun v h' => zrun zP sv C 111 45 [l0, l1, l2, l3, l4, l5] (v.toList ++ []) h') (fun E h' => some (.inr E, h'))) := zx_cv (x0 := 4) rfl rfl rfl rfl rfl ⟨Nat.le_of_ble_eq_true rfl, rfl⟩ (fun _ _ => rfl)
theorem zs_111_45 : zrun zP sv C 111 45 [.val (.ref a), l1, l2, l3, l4, l5] st h = zrun zP sv C 111 46 [.val (.ref a), l1, l2, l3, l4, l5] (.ref a :: st) h := zx_go rfl rfl
theorem zs_111_46 : zrun zP sv C 111 46 [l0, l1, l2, l3, l4, l5] (.ref a :: st) h = zfld (h.1 a) 12 3 (fun v => zrun zP sv C 111 49 [l0, l1, l2, l3, l4, l5] (v :: st) h) := zx_getf rfl rfl
theorem zs_111_49 : zrun zP sv C 111 49 [.val (.ref a), l1, l2, l3, l4, l5] st h = zrun zP sv C 111 50 [.val (.ref a), l1, l2, l3, l4, l5] (.ref a :: st) h := zx_go rfl rfl
theorem zs_111_50 : zrun zP sv C 111 50 [l0, l1, l2, l3, l4, l5] (.ref a :: st) h = zfld (h.1 a) 12 5 (fun v => zrun zP sv C 111 53 [l0, l1, l2, l3, l4, l5] (v :: st) h) := zx_getf rfl rfl
theorem zs_111_53 : zrun zP sv C 111 53 [l0, l1, l2, l3, .val (.int x), l5] st h = zrun zP sv C 111 55 [l0, l1, l2, l3, .val (.int x), l5] (.int x :: st) h := zx_go rfl rfl
theorem zs_111_55 : zrun zP sv C 111 55 [l0, l1, l2, l3, l4, l5] [v2, v1, .ref b] h = zrc (h.1 b) 4 (zbk (C 166 [.ref b, v1, v2] h) (fun v h' => zrun zP sv C 111 58 [l0, l1, l2, l3, l4, l5] (v.toList ++ []) h') (fun E h' => some (.inr E, h'))) := zx_cv (x0 := 4) rfl rfl rfl rfl rfl ⟨Nat.le_of_ble_eq_true rfl, rfl⟩ (fun _ _ => rfl)
theorem zs_111_58 : zrun zP sv C 111 58 [.val (.ref a), l1, l2, l3, l4, l5] st h = zrun zP sv C 111 59 [.val (.ref a), l1, l2, l3, l4, l5] (.ref a :: st) h := zx_go rfl rfl
theorem zs_111_59 : zrun zP sv C 111 59 [l0, l1, l2, l3, l4, l5] (.ref a :: st) h = zfld (h.1 a) 12 4 (fun v => zrun zP sv C 111 62 [l0, l1, l2, l3, l4, l5] (v :: st) h) := zx_getf rfl rfl
theorem zs_111_62 : zrun zP sv C 111 62 [.val (.ref a), l1, l2, l3, l4, l5] st h = zrun zP sv C 111 63 [.val (.ref a), l1, l2, l3, l4, l5] (.ref a :: st) h := zx_go rfl rfl
theorem zs_111_63 : zrun zP sv C 111 63 [l0, l1, l2, l3, l4, l5] (.ref a :: st) h = zfld (h.1 a) 12 5 (fun v => zrun zP sv C 111 66 [l0, l1, l2, l3, l4, l5] (v :: st) h) := zx_getf rfl rfl
theorem zs_111_66 : zrun zP sv C 111 66 [l0, l1, l2, l3, l4, .val (.int x)] st h = zrun zP sv C 111 68 [l0, l1, l2, l3, l4, .val (.int x)] (.int x :: st) h := zx_go rfl rfl
theorem zs_111_68 : zrun zP sv C 111 68 [l0, l1, l2, l3, l4, l5] [v2, v1, .ref b] h = zrc (h.1 b) 4 (zbk (C 166 [.ref b, v1, v2] h) (fun v h' => zrun zP sv C 111 71 [l0, l1, l2, l3, l4, l5] (v.toList ++ []) h') (fun E h' => some (.inr E, h'))) := zx_cv (x0 := 4) rfl rfl rfl rfl rfl ⟨Nat.le_of_ble_eq_true rfl, rfl⟩ (fun _ _ => rfl)
theorem zs_111_71 : zrun zP sv C 111 71 [.val (.ref a), l1, l2, l3, l4, l5] st h = zrun zP sv C 111 72 [.val (.ref a), l1, l2, l3, l4, l5] (.ref a :: st) h := zx_go rfl rfl
theorem zs_111_72 : zrun zP sv C 111 72 [l0, l1, l2, l3, l4, l5] (.ref a :: st) h = zrun zP sv C 111 73 [l0, l1, l2, l3, l4, l5] (.ref a :: .ref a :: st) h := zx_go rfl rfl
theorem zs_111_73 : zrun zP sv C 111 73 [l0, l1, l2, l3, l4, l5] (.ref a :: st) h = zfld (h.1 a) 12 5 (fun v => zrun zP sv C 111 76 [l0, l1, l2, l3, l4, l5] (v :: st) h) := zx_getf rfl rfl
theorem zs_111_76 : zrun zP sv C 111 76 [l0, l1, l2, l3, l4, l5] st h = zrun zP sv C 111 77 [l0, l1, l2, l3, l4, l5] (.int (nI 1) :: st) h := zx_go rfl rfl
theorem zs_111_77 : zrun zP sv C 111 77 [l0, l1, l2, l3, l4, l5] (.int y :: .int x :: st) h = zrun zP sv C 111 78 [l0, l1, l2, l3, l4, l5] (.int (x + y) :: st) h := zx_go rfl rfl
theorem zs_111_78 : zrun zP sv C 111 78 [l0, l1, l2, l3, l4, l5] (.int x :: .ref a :: st) h = zpfd (h.1 a) 12 5 0 (.int x) (fun c => zrun zP sv C 111 81 [l0, l1, l2, l3, l4, l5] st (zup h a c)) := zx_putf (x0 := 0) rfl rfl
theorem zs_111_81 : zrun zP sv C 111 81 [l0, l1, l2, l3, l4, l5] [] h = some (.inl none, h) := zx_end rfl rfl
theorem zs_112_0 : zrun zP sv C 112 0 [l0, l1, l2] st h = zrun zP sv C 112 1 [l0, l1, l2] (.int 0 :: st) h := zx_go rfl rfl
theorem zs_112_1 (hs : znw l2 = true) : zrun zP sv C 112 1 [l0, l1, l2] (.int x :: st) h = zrun zP sv C 112 2 [l0, l1, .val (.int x)] st h := zx_st hs rfl rfl rfl rfl rfl rfl
theorem zs_112_2 : zrun zP sv C 112 2 [l0, l1, .val (.int x)] st h = zrun zP sv C 112 3 [l0, l1, .val (.int x)] (.int x :: st) h := zx_go rfl rfl
theorem zs_112_3 : zrun zP sv C 112 3 [.val (.ref a), l1, l2] st h = zrun zP sv C 112 4 [.val (.ref a), l1, l2] (.ref a :: st) h := zx_go rfl rfl
theorem zs_112_4 : zrun zP sv C 112 4 [l0, l1, l2] (.ref a :: st) h = zfld (h.1 a) 12 5 (fun v => zrun zP sv C 112 7 [l0, l1, l2] (v :: st) h) := zx_getf rfl rfl
theorem zs_112_7 : zrun zP sv C 112 7 [l0, l1, l2] (.int y :: .int x :: st) h = if x < y then zrun zP sv C 112 10 [l0, l1, l2] st h else zrun zP sv C 112 22 [l0, l1, l2] st h := (zx_ic rfl rfl).trans zc3_if
theorem zs_112_10 : zrun zP sv C 112 10 [.val (.ref a), l1, l2] st h = zrun zP sv C 112 11 [.val (.ref a), l1, l2] (.ref a :: st) h := zx_go rfl rfl
theorem zs_112_11 : zrun zP sv C 112 11 [l0, l1, .val (.int x)] st h = zrun zP sv C 112 12 [l0, l1, .val (.int x)] (.int x :: st) h := zx_go rfl rfl
theorem zs_112_12 : zrun zP sv C 112 12 [l0, .val (.ref a), l2] st h = zrun zP sv C 112 13 [l0, .val (.ref a), l2] (.ref a :: st) h := zx_go rfl rfl
theorem zs_112_13 : zrun zP sv C 112 13 [l0, l1, l2] [v2, v1, .ref b] h = zrc (h.1 b) 12 (zbk (C 113 [.ref b, v1, v2] h) (fun v h' => zrun zP sv C 112 16 [l0, l1, l2] (v.toList ++ []) h') (fun E h' => some (.inr E, h'))) := zx_cv (x0 := 12) rfl rfl rfl rfl rfl ⟨Nat.le_of_ble_eq_true rfl, rfl⟩ (fun _ _ => rfl)
theorem zs_112_16 : zrun zP sv C 112 16 [l0, l1, .val (.int x)] st h = zrun zP sv C 112 19 [l0, l1, .val (.int (x + (nI 1)))] st h := zx_ii rfl rfl rfl rfl rfl
theorem zs_112_19 : zrun zP sv C 112 19 [l0, l1, l2] st h = zrun zP sv C 112 2 [l0, l1, l2] st h := zx_go rfl rfl
theorem zs_112_22 : zrun zP sv C 112 22 [.val (.ref a), l1, l2] st h = zrun zP sv C 112 23 [.val (.ref a), l1, l2] (.ref a :: st) h := zx_go rfl rfl
theorem zs_112_23 : zrun zP sv C 112 23 [l0, l1, l2] (.ref a :: st) h = zfld (h.1 a) 12 8 (fun v => zrun zP sv C 112 26 [l0, l1, l2] (v :: st) h) := zx_getf rfl rfl
theorem zs_112_26 : zrun zP sv C 112 26 [l0, l1, l2] st h = zrun zP sv C 112 27 [l0, l1, l2] (.int 0 :: st) h := zx_go rfl rfl
theorem zs_112_27 : zrun zP sv C 112 27 [l0, l1, l2] [v1, .ref b] h = zrc (h.1 b) 4 (zbk (C 165 [.ref b, v1] h) (fun v h' => zrun zP sv C 112 30 [l0, l1, l2] (v.toList ++ []) h') (fun E h' => some (.inr E, h'))) := zx_cv (x0 := 4) rfl rfl rfl rfl rfl ⟨Nat.le_of_ble_eq_true rfl, rfl⟩ (fun _ _ => rfl)
theorem zs_112_30 : zrun zP sv C 112 30 [l0, l1, l2] [.int x] h = some (.inl (some (.int x)), h) := zx_end rfl rfl
theorem zs_113_0 : zrun zP sv C 113 0 [.val (.ref a), l1, l2, l3, l4, l5] st h = zrun zP sv C 113 1 [.val (.ref a), l1, l2, l3, l4, l5] (.ref a :: st) h := zx_go rfl rfl
theorem zs_113_1 : zrun zP sv C 113 1 [l0, l1, l2, l3, l4, l5] (.ref a :: st) h = zfld (h.1 a) 12 0 (fun v => zrun zP sv C 113 4 [l0, l1, l2, l3, l4, l5] (v :: st) h) := zx_getf rfl rfl
theorem zs_113_4 : zrun zP sv C 113 4 [l0, .val (.int x), l2, l3, l4, l5] st h = zrun zP sv C 113 5 [l0, .val (.int x), l2, l3, l4, l5] (.int x :: st) h := zx_go rfl rfl
theorem zs_113_5 : zrun zP sv C 113 5 [l0, l1, l2, l3, l4, l5] [v1, .ref b] h = zrc (h.1 b) 4 (zbk (C 165 [.ref b, v1] h) (fun v h' => zrun zP sv C 113 8 [l0, l1, l2, l3, l4, l5] (v.toList ++ []) h') (fun E h' => some (.inr E, h'))) := zx_cv (x0 := 4) rfl rfl rfl rfl rfl ⟨Nat.le_of_ble_eq_true rfl, rfl⟩ (fun _ _ => rfl)
theorem zs_113_8 (hs : znw l3 = true) : zrun zP sv C 113 8 [l0, l1, l2, l3, l4, l5] (.int x :: st) h = zrun zP sv C 113 9 [l0, l1, l2, .val (.int x), l4, l5] st h := zx_st hs rfl rfl rfl rfl rfl rfl
theorem zs_113_9 : zrun zP sv C 113 9 [.val (.ref a), l1, l2, l3, l4, l5] st h = zrun zP sv C 113 10 [.val (.ref a), l1, l2, l3, l4, l5] (.ref a :: st) h := zx_go rfl rfl
theorem zs_113_10 : zrun zP sv C 113 10 [l0, l1, l2, l3, l4, l5] (.ref a :: st) h = zfld (h.1 a) 12 1 (fun v => zrun zP sv C 113 13 [l0, l1, l2, l3, l4, l5] (v :: st) h) := zx_getf rfl rfl
theorem zs_113_13 : zrun zP sv C 113 13 [l0, .val (.int x), l2, l3, l4, l5] st h = zrun zP sv C 113 14 [l0, .val (.int x), l2, l3, l4, l5] (.int x :: st) h := zx_go rfl rfl
theorem zs_113_14 : zrun zP sv C 113 14 [l0, l1, l2, l3, l4, l5] [v1, .ref b] h = zrc (h.1 b) 4 (zbk (C 165 [.ref b, v1] h) (fun v h' => zrun zP sv C 113 17 [l0, l1, l2, l3, l4, l5] (v.toList ++ []) h') (fun E h' => some (.inr E, h'))) := zx_cv (x0 := 4) rfl rfl rfl rfl rfl ⟨Nat.le_of_ble_eq_true rfl, rfl⟩ (fun _ _ => rfl)
theorem zs_113_17 (hs : znw l4 = true) : zrun zP sv C 113 17 [l0, l1, l2, l3, l4, l5] (.int x :: st) h = zrun zP sv C 113 19 [l0, l1, l2, l3, .val (.int x), l5] st h := zx_st hs rfl rfl rfl rfl rfl rfl
theorem zs_113_19 : zrun zP sv C 113 19 [.val (.ref a), l1, l2, l3, l4, l5] st h = zrun zP sv C 113 20 [.val (.ref a), l1, l2, l3, l4, l5] (.ref a :: st) h := zx_go rfl rfl
theorem zs_113_20 : zrun zP sv C 113 20 [l0, l1, l2, l3, l4, l5] (.ref a :: st) h = zfld (h.1 a) 12 2 (fun v => zrun zP sv C 113 23 [l0, l1, l2, l3, l4, l5] (v :: st) h) := zx_getf rfl rfl
theorem zs_113_23 : zrun zP sv C 113 23 [l0, .val (.int x), l2, l3, l4, l5] st h = zrun zP sv C 113 24 [l0, .val (.int x), l2, l3, l4, l5] (.int x :: st) h := zx_go rfl rfl
theorem zs_113_24 : zrun zP sv C 113 24 [l0, l1, l2, l3, l4, l5] [v1, .ref b] h = zrc (h.1 b) 4 (zbk (C 165 [.ref b, v1] h) (fun v h' => zrun zP sv C 113 27 [l0, l1, l2, l3, l4, l5] (v.toList ++ []) h') (fun E h' => some (.inr E, h'))) := zx_cv (x0 := 4) rfl rfl rfl rfl rfl ⟨Nat.le_of_ble_eq_true rfl, rfl⟩ (fun _ _ => rfl)
theorem zs_113_27 (hs : znw l5 = true) : zrun zP sv C 113 27 [l0, l1, l2, l3, l4, l5] (.int x :: st) h = zrun zP sv C 113 29 [l0, l1, l2, l3, l4, .val (.int x)] st h := zx_st hs rfl rfl rfl rfl rfl rfl
theorem zs_113_29 : zrun zP sv C 113 29 [l0, l1, l2, .val (.int x), l4, l5] st h = zrun zP sv C 113 30 [l0, l1, l2, .val (.int x), l4, l5] (.int x :: st) h := zx_go rfl rfl
theorem zs_113_30 : zrun zP sv C 113 30 [l0, l1, l2, l3, l4, l5] st h = zrun zP sv C 113 32 [l0, l1, l2, l3, l4, l5] (.int (nI 99) :: st) h := zx_go rfl rfl
theorem zs_113_32 : zrun zP sv C 113 32 [l0, l1, l2, l3, l4, l5] (.int y :: .int x :: st) h = if x = y then zrun zP sv C 113 35 [l0, l1, l2, l3, l4, l5] st h else zrun zP sv C 113 49 [l0, l1, l2, l3, l4, l5] st h := (zx_ic rfl rfl).trans zc1_if
theorem zs_113_35 : zrun zP sv C 113 35 [.val (.ref a), l1, l2, l3, l4, l5] st h = zrun zP sv C 113 36 [.val (.ref a), l1, l2, l3, l4, l5] (.ref a :: st) h := zx_go rfl rfl
theorem zs_113_36 : zrun zP sv C 113 36 [l0, l1, l2, l3, l4, l5] (.ref a :: st) h = zfld (h.1 a) 12 8 (fun v => zrun zP sv C 113 39 [l0, l1, l2, l3, l4, l5] (v :: st) h) := zx_getf rfl rfl
theorem zs_113_39 : zrun zP sv C 113 39 [l0, l1, l2, l3, .val (.int x), l5] st h = zrun zP sv C 113 41 [l0, l1, l2, l3, .val (.int x), l5] (.int x :: st) h := zx_go rfl rfl
theorem zs_113_41 : zrun zP sv C 113 41 [l0, l1, l2, l3, l4, .val (.int x)] st h = zrun zP sv C 113 43 [l0, l1, l2, l3, l4, .val (.int x)] (.int x :: st) h := zx_go rfl rfl
theorem zs_113_43 : zrun zP sv C 113 43 [l0, l1, l2, l3, l4, l5] [v2, v1, .ref b] h = zrc (h.1 b) 4 (zbk (C 166 [.ref b, v1, v2] h) (fun v h' => zrun zP sv C 113 46 [l0, l1, l2, l3, l4, l5] (v.toList ++ []) h') (fun E h' => some (.inr E, h'))) := zx_cv (x0 := 4) rfl rfl rfl rfl rfl ⟨Nat.le_of_ble_eq_true rfl, rfl⟩ (fun _ _ => rfl)
theorem zs_113_46 : zrun zP sv C 113 46 [l0, l1, l2, l3, l4, l5] st h = zrun zP sv C 113 148 [l0, l1, l2, l3, l4, l5] st h := zx_go rfl rfl
theorem zs_113_49 : zrun zP sv C 113 49 [l0, l1, l2, .val (.int x), l4, l5] st h = zrun zP sv C 113 50 [l0, l1, l2, .val (.int x), l4, l5] (.int x :: st) h := zx_go rfl rfl
theorem zs_113_50 : zrun zP sv C 113 50 [l0, l1, l2, l3, l4, l5] st h = zrun zP sv C 113 52 [l0, l1, l2, l3, l4, l5] (.int (nI 118) :: st) h := zx_go rfl rfl
theorem zs_113_52 : zrun zP sv C 113 52 [l0, l1, l2, l3, l4, l5] (.int y :: .int x :: st) h = if x = y then zrun zP sv C 113 55 [l0, l1, l2, l3, l4, l5] st h else zrun zP sv C 113 76 [l0, l1, l2, l3, l4, l5] st h := (zx_ic rfl rfl).trans zc1_if
theorem zs_113_55 : zrun zP sv C 113 55 [.val (.ref a), l1, l2, l3, l4, l5] st h = zrun zP sv C 113 56 [.val (.ref a), l1, l2, l3, l4, l5] (.ref a :: st) h := zx_go rfl rfl
theorem zs_113_56 : zrun zP sv C 113 56 [l0, l1, l2, l3, l4, l5] (.ref a :: st) h = zfld (h.1 a) 12 8 (fun v => zrun zP sv C 113 59 [l0, l1, l2, l3, l4, l5] (v :: st) h) := zx_getf rfl rfl
theorem zs_113_59 : zrun zP sv C 113 59 [l0, l1, l2, l3, .val (.int x), l5] st h = zrun zP sv C 113 61 [l0, l1, l2, l3, .val (.int x), l5] (.int x :: st) h := zx_go rfl rfl
theorem zs_113_61 : zrun zP sv C 113 61 [l0, l1, .val (.ref a), l3, l4, l5] st h = zrun zP sv C 113 62 [l0, l1, .val (.ref a), l3, l4, l5] (.ref a :: st) h := zx_go rfl rfl
theorem zs_113_62 : zrun zP sv C 113 62 [l0, l1, l2, l3, l4, .val (.int x)] st h = zrun zP sv C 113 64 [l0, l1, l2, l3, l4, .val (.int x)] (.int x :: st) h := zx_go rfl rfl
theorem zs_113_64 : zrun zP sv C 113 64 [l0, l1, l2, l3, l4, l5] st h = zrun zP sv C 113 66 [l0, l1, l2, l3, l4, l5] (.int (nI 97) :: st) h := zx_go rfl rfl
theorem zs_113_66 : zrun zP sv C 113 66 [l0, l1, l2, l3, l4, l5] (.int y :: .int x :: st) h = zrun zP sv C 113 67 [l0, l1, l2, l3, l4, l5] (.int (x - y) :: st) h := zx_go rfl rfl
theorem zs_113_67 : zrun zP sv C 113 67 [l0, l1, l2, l3, l4, l5] [v1, .ref b, r0, r1] h = zrc (h.1 b) 4 (zbk (C 165 [.ref b, v1] h) (fun v h' => zrun zP sv C 113 70 [l0, l1, l2, l3, l4, l5] (v.toList ++ [r0, r1]) h') (fun E h' => some (.inr E, h'))) := zx_cv (x0 := 4) rfl rfl rfl rfl rfl ⟨Nat.le_of_ble_eq_true rfl, rfl⟩ (fun _ _ => rfl)
theorem zs_113_70 : zrun zP sv C 113 70 [l0, l1, l2, l3, l4, l5] [v2, v1, .ref b] h = zrc (h.1 b) 4 (zbk (C 166 [.ref b, v1, v2] h) (fun v h' => zrun zP sv C 113 73 [l0, l1, l2, l3, l4, l5] (v.toList ++ []) h') (fun E h' => some (.inr E, h'))) := zx_cv (x0 := 4) rfl rfl rfl rfl rfl ⟨Nat.le_of_ble_eq_true rfl, rfl⟩ (fun _ _ => rfl)
theorem zs_113_73 : zrun zP sv C 113 73 [l0, l1, l2, l3, l4, l5] st h = zrun zP sv C 113 148 [l0, l1, l2, l3, l4, l5] st h := zx_go rfl rfl
theorem zs_113_76 : zrun zP sv C 113 76 [l0, l1, l2, .val (.int x), l4, l5] st h = zrun zP sv C 113 77 [l0, l1, l2, .val (.int x), l4, l5] (.int x :: st) h := zx_go rfl rfl
theorem zs_113_77 : zrun zP sv C 113 77 [l0, l1, l2, l3, l4, l5] st h = zrun zP sv C 113 79 [l0, l1, l2, l3, l4, l5] (.int (nI 115) :: st) h := zx_go rfl rfl
theorem zs_113_79 : zrun zP sv C 113 79 [l0, l1, l2, l3, l4, l5] (.int y :: .int x :: st) h = if x = y then zrun zP sv C 113 82 [l0, l1, l2, l3, l4, l5] st h else zrun zP sv C 113 105 [l0, l1, l2, l3, l4, l5] st h := (zx_ic rfl rfl).trans zc1_if
theorem zs_113_82 : zrun zP sv C 113 82 [.val (.ref a), l1, l2, l3, l4, l5] st h = zrun zP sv C 113 83 [.val (.ref a), l1, l2, l3, l4, l5] (.ref a :: st) h := zx_go rfl rfl
theorem zs_113_83 : zrun zP sv C 113 83 [l0, l1, l2, l3, l4, l5] (.ref a :: st) h = zfld (h.1 a) 12 8 (fun v => zrun zP sv C 113 86 [l0, l1, l2, l3, l4, l5] (v :: st) h) := zx_getf rfl rfl
theorem zs_113_86 : zrun zP sv C 113 86 [l0, l1, l2, l3, l4, l5] st h = zrun zP sv C 113 87 [l0, l1, l2, l3, l4, l5] (.int (nI 4) :: st) h := zx_go rfl rfl
theorem zs_113_87 : zrun zP sv C 113 87 [l0, l1, l2, l3, l4, .val (.int x)] st h = zrun zP sv C 113 89 [l0, l1, l2, l3, l4, .val (.int x)] (.int x :: st) h := zx_go rfl rfl
theorem zs_113_89 : zrun zP sv C 113 89 [l0, l1, l2, l3, l4, l5] (.int y :: .int x :: st) h = zrun zP sv C 113 90 [l0, l1, l2, l3, l4, l5] (.int (x + y) :: st) h := zx_go rfl rfl
theorem zs_113_90 : zrun zP sv C 113 90 [.val (.ref a), l1, l2, l3, l4, l5] st h = zrun zP sv C 113 91 [.val (.ref a), l1, l2, l3, l4, l5] (.ref a :: st) h := zx_go rfl rfl
theorem zs_113_91 : zrun zP sv C 113 91 [l0, l1, l2, l3, l4, l5] (.ref a :: st) h = zfld (h.1 a) 12 8 (fun v => zrun zP sv C 113 94 [l0, l1, l2, l3, l4, l5] (v :: st) h) := zx_getf rfl rfl
theorem zs_113_94 : zrun zP sv C 113 94 [l0, l1, l2, l3, .val (.int x), l5] st h = zrun zP sv C 113 96 [l0, l1, l2, l3, .val (.int x), l5] (.int x :: st) h := zx_go rfl rfl
theorem zs_113_96 : zrun zP sv C 113 96 [l0, l1, l2, l3, l4, l5] [v1, .ref b, r0, r1] h = zrc (h.1 b) 4 (zbk (C 165 [.ref b, v1] h) (fun v h' => zrun zP sv C 113 99 [l0, l1, l2, l3, l4, l5] (v.toList ++ [r0, r1]) h') (fun E h' => some (.inr E, h'))) := zx_cv (x0 := 4) rfl rfl rfl rfl rfl ⟨Nat.le_of_ble_eq_true rfl, rfl⟩ (fun _ _ => rfl)
theorem zs_113_99 : zrun zP sv C 113 99 [l0, l1, l2, l3, l4, l5] [v2, v1, .ref b] h = zrc (h.1 b) 4 (zbk (C 166 [.ref b, v1, v2] h) (fun v h' => zrun zP sv C 113 102 [l0, l1, l2, l3, l4, l5] (v.toList ++ []) h') (fun E h' => some (.inr E, h'))) := zx_cv (x0 := 4) rfl rfl rfl rfl rfl ⟨Nat.le_of_ble_eq_true rfl, rfl⟩ (fun _ _ => rfl)
theorem zs_113_102 : zrun zP sv C 113 102 [l0, l1, l2, l3, l4, l5] st h = zrun zP sv C 113 148 [l0, l1, l2, l3, l4, l5] st h := zx_go rfl rfl
theorem zs_113_105 : zrun zP sv C 113 105 [.val (.ref a), l1, l2, l3, l4, l5] st h = zrun zP sv C 113 106 [.val (.ref a), l1, l2, l3, l4, l5] (.ref a :: st) h := zx_go rfl rfl
theorem zs_113_106 : zrun zP sv C 113 106 [l0, l1, l2, l3, l4, l5] (.ref a :: st) h = zfld (h.1 a) 12 8 (fun v => zrun zP sv C 113 109 [l0, l1, l2, l3, l4, l5] (v :: st) h) := zx_getf rfl rfl
theorem zs_113_109 : zrun zP sv C 113 109 [l0, l1, l2, l3, .val (.int x), l5] st h = zrun zP sv C 113 111 [l0, l1, l2, l3, .val (.int x), l5] (.int x :: st) h := zx_go rfl rfl
theorem zs_113_111 : zrun zP sv C 113 111 [l0, l1, l2, .val (.int x), l4, l5] st h = zrun zP sv C 113 112 [l0, l1, l2, .val (.int x), l4, l5] (.int x :: st) h := zx_go rfl rfl
theorem zs_113_112 : zrun zP sv C 113 112 [.val (.ref a), l1, l2, l3, l4, l5] st h = zrun zP sv C 113 113 [.val (.ref a), l1, l2, l3, l4, l5] (.ref a :: st) h := zx_go rfl rfl
theorem zs_113_113 : zrun zP sv C 113 113 [l0, l1, l2, l3, l4, l5] (.ref a :: st) h = zfld (h.1 a) 12 8 (fun v => zrun zP sv C 113 116 [l0, l1, l2, l3, l4, l5] (v :: st) h) := zx_getf rfl rfl
theorem zs_113_116 : zrun zP sv C 113 116 [.val (.ref a), l1, l2, l3, l4, l5] st h = zrun zP sv C 113 117 [.val (.ref a), l1, l2, l3, l4, l5] (.ref a :: st) h := zx_go rfl rfl
theorem zs_113_117 : zrun zP sv C 113 117 [l0, l1, l2, l3, l4, l5] (.ref a :: st) h = zfld (h.1 a) 12 3 (fun v => zrun zP sv C 113 120 [l0, l1, l2, l3, l4, l5] (v :: st) h) := zx_getf rfl rfl
theorem zs_113_120 : zrun zP sv C 113 120 [l0, .val (.int x), l2, l3, l4, l5] st h = zrun zP sv C 113 121 [l0, .val (.int x), l2, l3, l4, l5] (.int x :: st) h := zx_go rfl rfl
theorem zs_113_121 : zrun zP sv C 113 121 [l0, l1, l2, l3, l4, l5] [v1, .ref b, r0, r1, r2, r3] h = zrc (h.1 b) 4 (zbk (C 165 [.ref b, v1] h) (fun v h' => zrun zP sv C 113 124 [l0, l1, l2, l3, l4, l5] (v.toList ++ [r0, r1, r2, r3]) h') (fun E h' => some (.inr E, h'))) := zx_cv (x0 := 4) rfl rfl rfl rfl rfl ⟨Nat.le_of_ble_eq_true rfl, rfl⟩ (fun _ _ => rfl)
theorem zs_113_124 : zrun zP sv C 113 124 [l0, l1, l2, l3, l4, l5] [v1, .ref b, r0, r1, r2] h = zrc (h.1 b) 4 (zbk (C 165 [.ref b, v1] h) (fun v h' => zrun zP sv C 113 127 [l0, l1, l2, l3, l4, l5] (v.toList ++ [r0, r1, r2]) h') (fun E h' => some (.inr E, h'))) := zx_cv (x0 := 4) rfl rfl rfl rfl rfl ⟨Nat.le_of_ble_eq_true rfl, rfl⟩ (fun _ _ => rfl)
theorem zs_113_127 : zrun zP sv C 113 127 [.val (.ref a), l1, l2, l3, l4, l5] st h = zrun zP sv C 113 128 [.val (.ref a), l1, l2, l3, l4, l5] (.ref a :: st) h := zx_go rfl rfl
theorem zs_113_128 : zrun zP sv C 113 128 [l0, l1, l2, l3, l4, l5] (.ref a :: st) h = zfld (h.1 a) 12 8 (fun v => zrun zP sv C 113 131 [l0, l1, l2, l3, l4, l5] (v :: st) h) := zx_getf rfl rfl
theorem zs_113_131 : zrun zP sv C 113 131 [.val (.ref a), l1, l2, l3, l4, l5] st h = zrun zP sv C 113 132 [.val (.ref a), l1, l2, l3, l4, l5] (.ref a :: st) h := zx_go rfl rfl
theorem zs_113_132 : zrun zP sv C 113 132 [l0, l1, l2, l3, l4, l5] (.ref a :: st) h = zfld (h.1 a) 12 4 (fun v => zrun zP sv C 113 135 [l0, l1, l2, l3, l4, l5] (v :: st) h) := zx_getf rfl rfl
theorem zs_113_135 : zrun zP sv C 113 135 [l0, .val (.int x), l2, l3, l4, l5] st h = zrun zP sv C 113 136 [l0, .val (.int x), l2, l3, l4, l5] (.int x :: st) h := zx_go rfl rfl
theorem zs_113_136 : zrun zP sv C 113 136 [l0, l1, l2, l3, l4, l5] [v1, .ref b, .ref q0, .int w1, .int w2, .int w3, .ref q4] h = zrc (h.1 b) 4 (zbk (C 165 [.ref b, v1] h) (fun v h' => zrun zP sv C 113 139 [l0, l1, l2, l3, l4, l5] (v.toList ++ [.ref q0, .int w1, .int w2, .int w3, .ref q4]) h') (fun E h' => some (.inr E, h'))) := zx_cv (x0 := 4) rfl rfl rfl rfl rfl ⟨Nat.le_of_ble_eq_true rfl, rfl⟩ (fun _ _ => rfl)
theorem zs_113_139 : zrun zP sv C 113 139 [l0, l1, l2, l3, l4, l5] [v1, .ref b, r0, r1, r2, r3] h = zrc (h.1 b) 4 (zbk (C 165 [.ref b, v1] h) (fun v h' => zrun zP sv C 113 142 [l0, l1, l2, l3, l4, l5] (v.toList ++ [r0, r1, r2, r3]) h') (fun E h' => some (.inr E, h'))) := zx_cv (x0 := 4) rfl rfl rfl rfl rfl ⟨Nat.le_of_ble_eq_true rfl, rfl⟩ (fun _ _ => rfl)
theorem zs_113_142 : zrun zP sv C 113 142 [l0, l1, l2, l3, l4, l5] [v2, v1, v0, r0, r1] h = zbk (C 84 [v0, v1, v2] h) (fun v h' => zrun zP sv C 113 145 [l0, l1, l2, l3, l4, l5] (v.toList ++ [r0, r1]) h') (fun E h' => some (.inr E, h')) := zx_cs rfl rfl rfl rfl ⟨Nat.le_of_ble_eq_true rfl, rfl⟩ (fun _ _ => rfl)
theorem zs_113_145 : zrun zP sv C 113 145 [l0, l1, l2, l3, l4, l5] [v2, v1, .ref b] h = zrc (h.1 b) 4 (zbk (C 166 [.ref b, v1, v2] h) (fun v h' => zrun zP sv C 113 148 [l0, l1, l2, l3, l4, l5] (v.toList ++ []) h') (fun E h' => some (.inr E, h'))) := zx_cv (x0 := 4) rfl rfl rfl rfl rfl ⟨Nat.le_of_ble_eq_true rfl, rfl⟩ (fun _ _ => rfl)
theorem zs_113_148 : zrun zP sv C 113 148 [l0, l1, l2, l3, l4, l5] [] h = some (.inl none, h) := zx_end rfl rfl
theorem zs_114_0 : zrun zP sv C 114 0 [.val (.ref a), l1, l2, l3] st h = zrun zP sv C 114 1 [.val (.ref a), l1, l2, l3] (.ref a :: st) h := zx_go rfl rfl
theorem zs_114_1 : zrun zP sv C 114 1 [l0, l1, l2, l3] (.ref a :: st) h = zfld (h.1 a) 12 0 (fun v => zrun zP sv C 114 4 [l0, l1, l2, l3] (v :: st) h) := zx_getf rfl rfl
theorem zs_114_4 : zrun zP sv C 114 4 [l0, .val (.int x), l2, l3] st h = zrun zP sv C 114 5 [l0, .val (.int x), l2, l3] (.int x :: st) h := zx_go rfl rfl
theorem zs_114_5 : zrun zP sv C 114 5 [l0, l1, l2, l3] [v1, .ref b] h = zrc (h.1 b) 4 (zbk (C 165 [.ref b, v1] h) (fun v h' => zrun zP sv C 114 8 [l0, l1, l2, l3] (v.toList ++ []) h') (fun E h' => some (.inr E, h'))) := zx_cv (x0 := 4) rfl rfl rfl rfl rfl ⟨Nat.le_of_ble_eq_true rfl, rfl⟩ (fun _ _ => rfl)
theorem zs_114_8 (hs : znw l3 = true) : zrun zP sv C 114 8 [l0, l1, l2, l3] (.int x :: st) h = zrun zP sv C 114 9 [l0, l1, l2, .val (.int x)] st h := zx_st hs rfl rfl rfl rfl rfl rfl
theorem zs_114_9 : zrun zP sv C 114 9 [l0, l1, l2, .val (.int x)] st h = zrun zP sv C 114 10 [l0, l1, l2, .val (.int x)] (.int x :: st) h := zx_go rfl rfl
theorem zs_114_10 : zrun zP sv C 114 10 [l0, l1, l2, l3] st h = zrun zP sv C 114 12 [l0, l1, l2, l3] (.int (nI 115) :: st) h := zx_go rfl rfl
theorem zs_114_12 : zrun zP sv C 114 12 [l0, l1, l2, l3] (.int y :: .int x :: st) h = if x = y then zrun zP sv C 114 15 [l0, l1, l2, l3] st h else zrun zP sv C 114 28 [l0, l1, l2, l3] st h := (zx_ic rfl rfl).trans zc1_if
theorem zs_114_15 : zrun zP sv C 114 15 [l0, l1, l2, l3] st h = zrun zP sv C 114 16 [l0, l1, l2, l3] (.int (nI 4) :: st) h := zx_go rfl rfl
theorem zs_114_16 : zrun zP sv C 114 16 [.val (.ref a), l1, l2, l3] st h = zrun zP sv C 114 17 [.val (.ref a), l1, l2, l3] (.ref a :: st) h := zx_go rfl rfl
theorem zs_114_17 : zrun zP sv C 114 17 [l0, l1, l2, l3] (.ref a :: st) h = zfld (h.1 a) 12 2 (fun v => zrun zP sv C 114 20 [l0, l1, l2, l3] (v :: st) h) := zx_getf rfl rfl
theorem zs_114_20 : zrun zP sv C 114 20 [l0, .val (.int x), l2, l3] st h = zrun zP sv C 114 21 [l0, .val (.int x), l2, l3] (.int x :: st) h := zx_go rfl rfl
theorem zs_114_21 : zrun zP sv C 114 21 [l0, l1, l2, l3] [v1, .ref b, r0] h = zrc (h.1 b) 4 (zbk (C 165 [.ref b, v1] h) (fun v h' => zrun zP sv C 114 24 [l0, l1, l2, l3] (v.toList ++ [r0]) h') (fun E h' => some (.inr E, h'))) := zx_cv (x0 := 4) rfl rfl rfl rfl rfl ⟨Nat.le_of_ble_eq_true rfl, rfl⟩ (fun _ _ => rfl)
theorem zs_114_24 : zrun zP sv C 114 24 [l0, l1, l2, l3] (.int y :: .int x :: st) h = zrun zP sv C 114 25 [l0, l1, l2, l3] (.int (x + y) :: st) h := zx_go rfl rfl
theorem zs_114_25 : zrun zP sv C 114 25 [l0, l1, l2, l3] st h = zrun zP sv C 114 36 [l0, l1, l2, l3] st h := zx_go rfl rfl
theorem zs_114_28 : zrun zP sv C 114 28 [.val (.ref a), l1, l2, l3] st h = zrun zP sv C 114 29 [.val (.ref a), l1, l2, l3] (.ref a :: st) h := zx_go rfl rfl
theorem zs_114_29 : zrun zP sv C 114 29 [l0, l1, l2, l3] (.ref a :: st) h = zfld (h.1 a) 12 1 (fun v => zrun zP sv C 114 32 [l0, l1, l2, l3] (v :: st) h) := zx_getf rfl rfl
theorem zs_114_32 : zrun zP sv C 114 32 [l0, .val (.int x), l2, l3] st h = zrun zP sv C 114 33 [l0, .val (.int x), l2, l3] (.int x :: st) h := zx_go rfl rfl
theorem zs_114_33 : zrun zP sv C 114 33 [l0, l1, l2, l3] [v1, .ref b] h = zrc (h.1 b) 4 (zbk (C 165 [.ref b, v1] h) (fun v h' => zrun zP sv C 114 36 [l0, l1, l2, l3] (v.toList ++ []) h') (fun E h' => some (.inr E, h'))) := zx_cv (x0 := 4) rfl rfl rfl rfl rfl ⟨Nat.le_of_ble_eq_true rfl, rfl⟩ (fun _ _ => rfl)
theorem zs_114_36 : zrun zP sv C 114 36 [l0, l1, .val (.ref a), l3] st h = zrun zP sv C 114 37 [l0, l1, .val (.ref a), l3] (.ref a :: st) h := zx_go rfl rfl
theorem zs_114_37 : zrun zP sv C 114 37 [l0, l1, l2, l3] [v1, v0] h = zbk (C 115 [v0, v1] h) (fun v h' => zrun zP sv C 114 40 [l0, l1, l2, l3] (v.toList ++ []) h') (fun E h' => some (.inr E, h')) := zx_cs rfl rfl rfl rfl ⟨Nat.le_of_ble_eq_true rfl, rfl⟩ (fun _ _ => rfl)
theorem zs_114_40 : zrun zP sv C 114 40 [l0, l1, .val (.ref a), l3] st h = zrun zP sv C 114 41 [l0, l1, .val (.ref a), l3] (.ref a :: st) h := zx_go rfl rfl
theorem zs_114_41 : zrun zP sv C 114 41 [l0, l1, l2, l3] st h = zrun zP sv C 114 43 [l0, l1, l2, l3] (.int (nI 61) :: st) h := zx_go rfl rfl
theorem zs_114_43 : zrun zP sv C 114 43 [l0, l1, l2, l3] [v1, .ref b] h = zrc (h.1 b) 2 (zbk (C 15 [.ref b, v1] h) (fun v h' => zrun zP sv C 114 46 [l0, l1, l2, l3] (v.toList ++ []) h') (fun E h' => some (.inr E, h'))) := zx_cv (x0 := 2) rfl rfl rfl rfl rfl ⟨Nat.le_of_ble_eq_true rfl, rfl⟩ (fun _ _ => rfl)
theorem zs_114_46 : zrun zP sv C 114 46 [l0, l1, l2, l3] (.ref a :: st) h = zrun zP sv C 114 47 [l0, l1, l2, l3] st h := zx_go rfl rfl
theorem zs_114_47 : zrun zP sv C 114 47 [l0, l1, l2, .val (.int x)] st h = zrun zP sv C 114 48 [l0, l1, l2, .val (.int x)] (.int x :: st) h := zx_go rfl rfl
theorem zs_114_48 : zrun zP sv C 114 48 [l0, l1, l2, l3] st h = zrun zP sv C 114 50 [l0, l1, l2, l3] (.int (nI 99) :: st) h := zx_go rfl rfl
theorem zs_114_50 : zrun zP sv C 114 50 [l0, l1, l2, l3] (.int y :: .int x :: st) h = if x = y then zrun zP sv C 114 53 [l0, l1, l2, l3] st h else zrun zP sv C 114 69 [l0, l1, l2, l3] st h := (zx_ic rfl rfl).trans zc1_if
theorem zs_114_53 : zrun zP sv C 114 53 [l0, l1, .val (.ref a), l3] st h = zrun zP sv C 114 54 [l0, l1, .val (.ref a), l3] (.ref a :: st) h := zx_go rfl rfl
theorem zs_114_54 : zrun zP sv C 114 54 [.val (.ref a), l1, l2, l3] st h = zrun zP sv C 114 55 [.val (.ref a), l1, l2, l3] (.ref a :: st) h := zx_go rfl rfl
theorem zs_114_55 : zrun zP sv C 114 55 [l0, l1, l2, l3] (.ref a :: st) h = zfld (h.1 a) 12 2 (fun v => zrun zP sv C 114 58 [l0, l1, l2, l3] (v :: st) h) := zx_getf rfl rfl
theorem zs_114_58 : zrun zP sv C 114 58 [l0, .val (.int x), l2, l3] st h = zrun zP sv C 114 59 [l0, .val (.int x), l2, l3] (.int x :: st) h := zx_go rfl rfl
theorem zs_114_59 : zrun zP sv C 114 59 [l0, l1, l2, l3] [v1, .ref b, r0] h = zrc (h.1 b) 4 (zbk (C 165 [.ref b, v1] h) (fun v h' => zrun zP sv C 114 62 [l0, l1, l2, l3] (v.toList ++ [r0]) h') (fun E h' => some (.inr E, h'))) := zx_cv (x0 := 4) rfl rfl rfl rfl rfl ⟨Nat.le_of_ble_eq_true rfl, rfl⟩ (fun _ _ => rfl)
theorem zs_114_62 : zrun zP sv C 114 62 [l0, l1, l2, l3] [v1, .ref b] h = zrc (h.1 b) 2 (zbk (C 9 [.ref b, v1] h) (fun v h' => zrun zP sv C 114 65 [l0, l1, l2, l3] (v.toList ++ []) h') (fun E h' => some (.inr E, h'))) := zx_cv (x0 := 2) rfl rfl rfl rfl rfl ⟨Nat.le_of_ble_eq_true rfl, rfl⟩ (fun _ _ => rfl)
theorem zs_114_65 : zrun zP sv C 114 65 [l0, l1, l2, l3] (.ref a :: st) h = zrun zP sv C 114 66 [l0, l1, l2, l3] st h := zx_go rfl rfl
theorem zs_114_66 : zrun zP sv C 114 66 [l0, l1, l2, l3] st h = zrun zP sv C 114 172 [l0, l1, l2, l3] st h := zx_go rfl rfl
theorem zs_114_69 : zrun zP sv C 114 69 [l0, l1, l2, .val (.int x)] st h = zrun zP sv C 114 70 [l0, l1, l2, .val (.int x)] (.int x :: st) h := zx_go rfl rfl
theorem zs_114_70 : zrun zP sv C 114 70 [l0, l1, l2, l3] st h = zrun zP sv C 114 72 [l0, l1, l2, l3] (.int (nI 118) :: st) h := zx_go rfl rfl
theorem zs_114_72 : zrun zP sv C 114 72 [l0, l1, l2, l3] (.int y :: .int x :: st) h = if x = y then zrun zP sv C 114 75 [l0, l1, l2, l3] st h else zrun zP sv C 114 92 [l0, l1, l2, l3] st h := (zx_ic rfl rfl).trans zc1_if
theorem zs_114_75 : zrun zP sv C 114 75 [l0, l1, .val (.ref a), l3] st h = zrun zP sv C 114 76 [l0, l1, .val (.ref a), l3] (.ref a :: st) h := zx_go rfl rfl
theorem zs_114_76 : zrun zP sv C 114 76 [.val (.ref a), l1, l2, l3] st h = zrun zP sv C 114 77 [.val (.ref a), l1, l2, l3] (.ref a :: st) h := zx_go rfl rfl
theorem zs_114_77 : zrun zP sv C 114 77 [l0, l1, l2, l3] (.ref a :: st) h = zfld (h.1 a) 12 2 (fun v => zrun zP sv C 114 80 [l0, l1, l2, l3] (v :: st) h) := zx_getf rfl rfl
theorem zs_114_80 : zrun zP sv C 114 80 [l0, .val (.int x), l2, l3] st h = zrun zP sv C 114 81 [l0, .val (.int x), l2, l3] (.int x :: st) h := zx_go rfl rfl
theorem zs_114_81 : zrun zP sv C 114 81 [l0, l1, l2, l3] [v1, .ref b, r0] h = zrc (h.1 b) 4 (zbk (C 165 [.ref b, v1] h) (fun v h' => zrun zP sv C 114 84 [l0, l1, l2, l3] (v.toList ++ [r0]) h') (fun E h' => some (.inr E, h'))) := zx_cv (x0 := 4) rfl rfl rfl rfl rfl ⟨Nat.le_of_ble_eq_true rfl, rfl⟩ (fun _ _ => rfl)
theorem zs_114_84 : zrun zP sv C 114 84 [l0, l1, l2, l3] (.int x :: st) h = zrun zP sv C 114 85 [l0, l1, l2, l3] (.int (x.toUInt32 % 65536).toInt32 :: st) h := zx_go rfl rfl
theorem zs_114_85 : zrun zP sv C 114 85 [l0, l1, l2, l3] [v1, .ref b] h = zrc (h.1 b) 2 (zbk (C 15 [.ref b, v1] h) (fun v h' => zrun zP sv C 114 88 [l0, l1, l2, l3] (v.toList ++ []) h') (fun E h' => some (.inr E, h'))) := zx_cv (x0 := 2) rfl rfl rfl rfl rfl ⟨Nat.le_of_ble_eq_true rfl, rfl⟩ (fun _ _ => rfl)
theorem zs_114_88 : zrun zP sv C 114 88 [l0, l1, l2, l3] (.ref a :: st) h = zrun zP sv C 114 89 [l0, l1, l2, l3] st h := zx_go rfl rfl
theorem zs_114_89 : zrun zP sv C 114 89 [l0, l1, l2, l3] st h = zrun zP sv C 114 172 [l0, l1, l2, l3] st h := zx_go rfl rfl
theorem zs_114_92 : zrun zP sv C 114 92 [l0, l1, l2, .val (.int x)] st h = zrun zP sv C 114 93 [l0, l1, l2, .val (.int x)] (.int x :: st) h := zx_go rfl rfl
theorem zs_114_93 : zrun zP sv C 114 93 [l0, l1, l2, l3] st h = zrun zP sv C 114 95 [l0, l1, l2, l3] (.int (nI 115) :: st) h := zx_go rfl rfl
theorem zs_114_95 : zrun zP sv C 114 95 [l0, l1, l2, l3] (.int y :: .int x :: st) h = if x = y then zrun zP sv C 114 98 [l0, l1, l2, l3] st h else zrun zP sv C 114 113 [l0, l1, l2, l3] st h := (zx_ic rfl rfl).trans zc1_if
theorem zs_114_98 : zrun zP sv C 114 98 [.val (.ref a), l1, l2, l3] st h = zrun zP sv C 114 99 [.val (.ref a), l1, l2, l3] (.ref a :: st) h := zx_go rfl rfl
theorem zs_114_99 : zrun zP sv C 114 99 [l0, l1, l2, l3] (.ref a :: st) h = zfld (h.1 a) 12 3 (fun v => zrun zP sv C 114 102 [l0, l1, l2, l3] (v :: st) h) := zx_getf rfl rfl
theorem zs_114_102 : zrun zP sv C 114 102 [l0, .val (.int x), l2, l3] st h = zrun zP sv C 114 103 [l0, .val (.int x), l2, l3] (.int x :: st) h := zx_go rfl rfl
theorem zs_114_103 : zrun zP sv C 114 103 [l0, l1, l2, l3] [v1, .ref b] h = zrc (h.1 b) 4 (zbk (C 165 [.ref b, v1] h) (fun v h' => zrun zP sv C 114 106 [l0, l1, l2, l3] (v.toList ++ []) h') (fun E h' => some (.inr E, h'))) := zx_cv (x0 := 4) rfl rfl rfl rfl rfl ⟨Nat.le_of_ble_eq_true rfl, rfl⟩ (fun _ _ => rfl)
theorem zs_114_106 : zrun zP sv C 114 106 [l0, l1, .val (.ref a), l3] st h = zrun zP sv C 114 107 [l0, l1, .val (.ref a), l3] (.ref a :: st) h := zx_go rfl rfl
theorem zs_114_107 : zrun zP sv C 114 107 [l0, l1, l2, l3] [v1, v0] h = zbk (C 115 [v0, v1] h) (fun v h' => zrun zP sv C 114 110 [l0, l1, l2, l3] (v.toList ++ []) h') (fun E h' => some (.inr E, h')) := zx_cs rfl rfl rfl rfl ⟨Nat.le_of_ble_eq_true rfl, rfl⟩ (fun _ _ => rfl)
theorem zs_114_110 : zrun zP sv C 114 110 [l0, l1, l2, l3] st h = zrun zP sv C 114 172 [l0, l1, l2, l3] st h := zx_go rfl rfl
theorem zs_114_113 : zrun zP sv C 114 113 [l0, l1, l2, .val (.int x)] st h = zrun zP sv C 114 114 [l0, l1, l2, .val (.int x)] (.int x :: st) h := zx_go rfl rfl
theorem zs_114_114 : zrun zP sv C 114 114 [l0, l1, l2, l3] st h = zrun zP sv C 114 116 [l0, l1, l2, l3] (.int (nI 110) :: st) h := zx_go rfl rfl
theorem zs_114_116 : zrun zP sv C 114 116 [l0, l1, l2, l3] (.int y :: .int x :: st) h = if x = y then zrun zP sv C 114 119 [l0, l1, l2, l3] st h else zrun zP sv C 114 141 [l0, l1, l2, l3] st h := (zx_ic rfl rfl).trans zc1_if
theorem zs_114_119 : zrun zP sv C 114 119 [l0, l1, .val (.ref a), l3] st h = zrun zP sv C 114 120 [l0, l1, .val (.ref a), l3] (.ref a :: st) h := zx_go rfl rfl
theorem zs_114_120 : zrun zP sv C 114 120 [l0, l1, l2, l3] st h = zrun zP sv C 114 122 [l0, l1, l2, l3] (.int (nI 45) :: st) h := zx_go rfl rfl
theorem zs_114_122 : zrun zP sv C 114 122 [l0, l1, l2, l3] [v1, .ref b] h = zrc (h.1 b) 2 (zbk (C 15 [.ref b, v1] h) (fun v h' => zrun zP sv C 114 125 [l0, l1, l2, l3] (v.toList ++ []) h') (fun E h' => some (.inr E, h'))) := zx_cv (x0 := 2) rfl rfl rfl rfl rfl ⟨Nat.le_of_ble_eq_true rfl, rfl⟩ (fun _ _ => rfl)
theorem zs_114_125 : zrun zP sv C 114 125 [l0, l1, l2, l3] (.ref a :: st) h = zrun zP sv C 114 126 [l0, l1, l2, l3] st h := zx_go rfl rfl
theorem zs_114_126 : zrun zP sv C 114 126 [.val (.ref a), l1, l2, l3] st h = zrun zP sv C 114 127 [.val (.ref a), l1, l2, l3] (.ref a :: st) h := zx_go rfl rfl
theorem zs_114_127 : zrun zP sv C 114 127 [l0, l1, l2, l3] (.ref a :: st) h = zfld (h.1 a) 12 3 (fun v => zrun zP sv C 114 130 [l0, l1, l2, l3] (v :: st) h) := zx_getf rfl rfl
theorem zs_114_130 : zrun zP sv C 114 130 [l0, .val (.int x), l2, l3] st h = zrun zP sv C 114 131 [l0, .val (.int x), l2, l3] (.int x :: st) h := zx_go rfl rfl
theorem zs_114_131 : zrun zP sv C 114 131 [l0, l1, l2, l3] [v1, .ref b] h = zrc (h.1 b) 4 (zbk (C 165 [.ref b, v1] h) (fun v h' => zrun zP sv C 114 134 [l0, l1, l2, l3] (v.toList ++ []) h') (fun E h' => some (.inr E, h'))) := zx_cv (x0 := 4) rfl rfl rfl rfl rfl ⟨Nat.le_of_ble_eq_true rfl, rfl⟩ (fun _ _ => rfl)
theorem zs_114_134 : zrun zP sv C 114 134 [l0, l1, .val (.ref a), l3] st h = zrun zP sv C 114 135 [l0, l1, .val (.ref a), l3] (.ref a :: st) h := zx_go rfl rfl
theorem zs_114_135 : zrun zP sv C 114 135 [l0, l1, l2, l3] [v1, v0] h = zbk (C 115 [v0, v1] h) (fun v h' => zrun zP sv C 114 138 [l0, l1, l2, l3] (v.toList ++ []) h') (fun E h' => some (.inr E, h')) := zx_cs rfl rfl rfl rfl ⟨Nat.le_of_ble_eq_true rfl, rfl⟩ (fun _ _ => rfl)
theorem zs_114_138 : zrun zP sv C 114 138 [l0, l1, l2, l3] st h = zrun zP sv C 114 172 [l0, l1, l2, l3] st h := zx_go rfl rfl
theorem zs_114_141 : zrun zP sv C 114 141 [.val (.ref a), l1, l2, l3] st h = zrun zP sv C 114 142 [.val (.ref a), l1, l2, l3] (.ref a :: st) h := zx_go rfl rfl
theorem zs_114_142 : zrun zP sv C 114 142 [l0, l1, l2, l3] (.ref a :: st) h = zfld (h.1 a) 12 3 (fun v => zrun zP sv C 114 145 [l0, l1, l2, l3] (v :: st) h) := zx_getf rfl rfl
theorem zs_114_145 : zrun zP sv C 114 145 [l0, .val (.int x), l2, l3] st h = zrun zP sv C 114 146 [l0, .val (.int x), l2, l3] (.int x :: st) h := zx_go rfl rfl
theorem zs_114_146 : zrun zP sv C 114 146 [l0, l1, l2, l3] [v1, .ref b] h = zrc (h.1 b) 4 (zbk (C 165 [.ref b, v1] h) (fun v h' => zrun zP sv C 114 149 [l0, l1, l2, l3] (v.toList ++ []) h') (fun E h' => some (.inr E, h'))) := zx_cv (x0 := 4) rfl rfl rfl rfl rfl ⟨Nat.le_of_ble_eq_true rfl, rfl⟩ (fun _ _ => rfl)
theorem zs_114_149 : zrun zP sv C 114 149 [l0, l1, .val (.ref a), l3] st h = zrun zP sv C 114 150 [l0, l1, .val (.ref a), l3] (.ref a :: st) h := zx_go rfl rfl
theorem zs_114_150 : zrun zP sv C 114 150 [l0, l1, l2, l3] [v1, v0] h = zbk (C 115 [v0, v1] h) (fun v h' => zrun zP sv C 114 153 [l0, l1, l2, l3] (v.toList ++ []) h') (fun E h' => some (.inr E, h')) := zx_cs rfl rfl rfl rfl ⟨Nat.le_of_ble_eq_true rfl, rfl⟩ (fun _ _ => rfl)
theorem zs_114_153 : zrun zP sv C 114 153 [l0, l1, .val (.ref a), l3] st h = zrun zP sv C 114 154 [l0, l1, .val (.ref a), l3] (.ref a :: st) h := zx_go rfl rfl
theorem zs_114_154 : zrun zP sv C 114 154 [l0, l1, l2, .val (.int x)] st h = zrun zP sv C 114 155 [l0, l1, l2, .val (.int x)] (.int x :: st) h := zx_go rfl rfl
theorem zs_114_155 : zrun zP sv C 114 155 [l0, l1, l2, l3] (.int x :: st) h = zrun zP sv C 114 156 [l0, l1, l2, l3] (.int (x.toUInt32 % 65536).toInt32 :: st) h := zx_go rfl rfl
theorem zs_114_156 : zrun zP sv C 114 156 [l0, l1, l2, l3] [v1, .ref b] h = zrc (h.1 b) 2 (zbk (C 15 [.ref b, v1] h) (fun v h' => zrun zP sv C 114 159 [l0, l1, l2, l3] (v.toList ++ []) h') (fun E h' => some (.inr E, h'))) := zx_cv (x0 := 2) rfl rfl rfl rfl rfl ⟨Nat.le_of_ble_eq_true rfl, rfl⟩ (fun _ _ => rfl)
theorem zs_114_159 : zrun zP sv C 114 159 [l0, l1, l2, l3] (.ref a :: st) h = zrun zP sv C 114 160 [l0, l1, l2, l3] st h := zx_go rfl rfl
theorem zs_114_160 : zrun zP sv C 114 160 [.val (.ref a), l1, l2, l3] st h = zrun zP sv C 114 161 [.val (.ref a), l1, l2, l3] (.ref a :: st) h := zx_go rfl rfl
theorem zs_114_161 : zrun zP sv C 114 161 [l0, l1, l2, l3] (.ref a :: st) h = zfld (h.1 a) 12 4 (fun v => zrun zP sv C 114 164 [l0, l1, l2, l3] (v :: st) h) := zx_getf rfl rfl
theorem zs_114_164 : zrun zP sv C 114 164 [l0, .val (.int x), l2, l3] st h = zrun zP sv C 114 165 [l0, .val (.int x), l2, l3] (.int x :: st) h := zx_go rfl rfl
theorem zs_114_165 : zrun zP sv C 114 165 [l0, l1, l2, l3] [v1, .ref b] h = zrc (h.1 b) 4 (zbk (C 165 [.ref b, v1] h) (fun v h' => zrun zP sv C 114 168 [l0, l1, l2, l3] (v.toList ++ []) h') (fun E h' => some (.inr E, h'))) := zx_cv (x0 := 4) rfl rfl rfl rfl rfl ⟨Nat.le_of_ble_eq_true rfl, rfl⟩ (fun _ _ => rfl)
theorem zs_114_168 : zrun zP sv C 114 168 [l0, l1, .val (.ref a), l3] st h = zrun zP sv C 114 169 [l0, l1, .val (.ref a), l3] (.ref a :: st) h := zx_go rfl rfl
theorem zs_114_169 : zrun zP sv C 114 169 [l0, l1, l2, l3] [v1, v0] h = zbk (C 115 [v0, v1] h) (fun v h' => zrun zP sv C 114 172 [l0, l1, l2, l3] (v.toList ++ []) h') (fun E h' => some (.inr E, h')) := zx_cs rfl rfl rfl rfl ⟨Nat.le_of_ble_eq_true rfl, rfl⟩ (fun _ _ => rfl)
theorem zs_114_172 : zrun zP sv C 114 172 [l0, l1, l2, l3] [] h = some (.inl none, h) := zx_end rfl rfl
theorem zs_115_0 : zrun zP sv C 115 0 [.val (.int x), l1, l2] st h = zrun zP sv C 115 1 [.val (.int x), l1, l2] (.int x :: st) h := zx_go rfl rfl
theorem zs_115_1 : zrun zP sv C 115 1 [l0, l1, l2] st h = zrun zP sv C 115 2 [l0, l1, l2] (.int (nI 4) :: st) h := zx_go rfl rfl
theorem zs_115_2 : zrun zP sv C 115 2 [l0, l1, l2] (.int y :: .int x :: st) h = if x < y then zrun zP sv C 115 9 [l0, l1, l2] st h else zrun zP sv C 115 5 [l0, l1, l2] st h := (zx_ic rfl rfl).trans zc2_if
theorem zs_115_5 : zrun zP sv C 115 5 [l0, l1, l2] st h = zrun zP sv C 115 6 [l0, l1, l2] (.int (nI 1) :: st) h := zx_go rfl rfl
theorem zs_115_6 : zrun zP sv C 115 6 [l0, l1, l2] st h = zrun zP sv C 115 10 [l0, l1, l2] st h := zx_go rfl rfl
theorem zs_115_9 : zrun zP sv C 115 9 [l0, l1, l2] st h = zrun zP sv C 115 10 [l0, l1, l2] (.int 0 :: st) h := zx_go rfl rfl
theorem zs_115_10 (hs : znw l2 = true) : zrun zP sv C 115 10 [l0, l1, l2] (.int x :: st) h = zrun zP sv C 115 11 [l0, l1, .val (.int x)] st h := zx_st hs rfl rfl rfl rfl rfl rfl
theorem zs_115_11 : zrun zP sv C 115 11 [l0, .val (.ref a), l2] st h = zrun zP sv C 115 12 [l0, .val (.ref a), l2] (.ref a :: st) h := zx_go rfl rfl
theorem zs_115_12 : zrun zP sv C 115 12 [l0, l1, .val (.int x)] st h = zrun zP sv C 115 13 [l0, l1, .val (.int x)] (.int x :: st) h := zx_go rfl rfl
theorem zs_115_13 : zrun zP sv C 115 13 [l0, l1, l2] (.int x :: st) h = if x = 0 then zrun zP sv C 115 21 [l0, l1, l2] st h else zrun zP sv C 115 16 [l0, l1, l2] st h := (zx_if rfl rfl).trans zc0_if
theorem zs_115_16 : zrun zP sv C 115 16 [l0, l1, l2] st h = zrun zP sv C 115 18 [l0, l1, l2] (.int (nI 109) :: st) h := zx_go rfl rfl
theorem zs_115_18 : zrun zP sv C 115 18 [l0, l1, l2] st h = zrun zP sv C 115 23 [l0, l1, l2] st h := zx_go rfl rfl
theorem zs_115_21 : zrun zP sv C 115 21 [l0, l1, l2] st h = zrun zP sv C 115 23 [l0, l1, l2] (.int (nI 114) :: st) h := zx_go rfl rfl
theorem zs_115_23 : zrun zP sv C 115 23 [l0, l1, l2] [v1, .ref b] h = zrc (h.1 b) 2 (zbk (C 15 [.ref b, v1] h) (fun v h' => zrun zP sv C 115 26 [l0, l1, l2] (v.toList ++ []) h') (fun E h' => some (.inr E, h'))) := zx_cv (x0 := 2) rfl rfl rfl rfl rfl ⟨Nat.le_of_ble_eq_true rfl, rfl⟩ (fun _ _ => rfl)
theorem zs_115_26 : zrun zP sv C 115 26 [l0, l1, l2] (.ref a :: st) h = zrun zP sv C 115 27 [l0, l1, l2] st h := zx_go rfl rfl
theorem zs_115_27 : zrun zP sv C 115 27 [l0, .val (.ref a), l2] st h = zrun zP sv C 115 28 [l0, .val (.ref a), l2] (.ref a :: st) h := zx_go rfl rfl
theorem zs_115_28 : zrun zP sv C 115 28 [l0, l1, .val (.int x)] st h = zrun zP sv C 115 29 [l0, l1, .val (.int x)] (.int x :: st) h := zx_go rfl rfl
theorem zs_115_29 : zrun zP sv C 115 29 [l0, l1, l2] (.int x :: st) h = if x = 0 then zrun zP sv C 115 38 [l0, l1, l2] st h else zrun zP sv C 115 32 [l0, l1, l2] st h := (zx_if rfl rfl).trans zc0_if
theorem zs_115_32 : zrun zP sv C 115 32 [.val (.int x), l1, l2] st h = zrun zP sv C 115 33 [.val (.int x), l1, l2] (.int x :: st) h := zx_go rfl rfl
theorem zs_115_33 : zrun zP sv C 115 33 [l0, l1, l2] st h = zrun zP sv C 115 34 [l0, l1, l2] (.int (nI 4) :: st) h := zx_go rfl rfl
theorem zs_115_34 : zrun zP sv C 115 34 [l0, l1, l2] (.int y :: .int x :: st) h = zrun zP sv C 115 35 [l0, l1, l2] (.int (x - y) :: st) h := zx_go rfl rfl
theorem zs_115_35 : zrun zP sv C 115 35 [l0, l1, l2] st h = zrun zP sv C 115 39 [l0, l1, l2] st h := zx_go rfl rfl
theorem zs_115_38 : zrun zP sv C 115 38 [.val (.int x), l1, l2] st h = zrun zP sv C 115 39 [.val (.int x), l1, l2] (.int x :: st) h := zx_go rfl rfl
theorem zs_115_39 : zrun zP sv C 115 39 [l0, l1, l2] [v1, .ref b] h = zrc (h.1 b) 2 (zbk (C 9 [.ref b, v1] h) (fun v h' => zrun zP sv C 115 42 [l0, l1, l2] (v.toList ++ []) h') (fun E h' => some (.inr E, h'))) := zx_cv (x0 := 2) rfl rfl rfl rfl rfl ⟨Nat.le_of_ble_eq_true rfl, rfl⟩ (fun _ _ => rfl)
theorem zs_115_42 : zrun zP sv C 115 42 [l0, l1, l2] (.ref a :: st) h = zrun zP sv C 115 43 [l0, l1, l2] st h := zx_go rfl rfl
theorem zs_115_43 : zrun zP sv C 115 43 [l0, l1, l2] [] h = some (.inl none, h) := zx_end rfl rfl
theorem zs_116_0 : zrun zP sv C 116 0 [.val (.ref a)] st h = zrun zP sv C 116 1 [.val (.ref a)] (.ref a :: st) h := zx_go rfl rfl
theorem zs_116_1 : zrun zP sv C 116 1 [l0] [.ref a] h = zrun zP sv C 116 4 [l0] [] h := zx_go rfl rfl
theorem zs_116_4 : zrun zP sv C 116 4 [.val (.ref a)] st h = zrun zP sv C 116 5 [.val (.ref a)] (.ref a :: st) h := zx_go rfl rfl
theorem zs_116_5 : zrun zP sv C 116 5 [l0] st h = zrun zP sv C 116 8 [l0] (.ref h.2.1 :: st) (znew h (4, [.null]) 1) := zx_go rfl rfl
theorem zs_116_8 : zrun zP sv C 116 8 [l0] (.ref a :: st) h = zrun zP sv C 116 9 [l0] (.ref a :: .ref a :: st) h := zx_go rfl rfl
theorem zs_116_9 : zrun zP sv C 116 9 [l0] st h = zrun zP sv C 116 11 [l0] (.int (nI 124) :: st) h := zx_go rfl rfl
theorem zs_116_11 : zrun zP sv C 116 11 [l0] [v1, .ref b, r0, r1] h = zrc (h.1 b) 4 (zbk (C 164 [.ref b, v1] h) (fun v h' => zrun zP sv C 116 14 [l0] (v.toList ++ [r0, r1]) h') (fun E h' => some (.inr E, h'))) := zx_cv (x0 := 4) rfl rfl rfl rfl rfl ⟨Nat.le_of_ble_eq_true rfl, rfl⟩ (fun _ _ => rfl)
theorem zs_116_14 : zrun zP sv C 116 14 [l0] (.ref b :: .ref a :: st) h = zpfd (h.1 a) 10 0 4 (.ref b) (fun c => zrun zP sv C 116 17 [l0] st (zup h a c)) := zx_putf (x0 := 4) rfl rfl
theorem zs_116_17 : zrun zP sv C 116 17 [.val (.ref a)] st h = zrun zP sv C 116 18 [.val (.ref a)] (.ref a :: st) h := zx_go rfl rfl
theorem zs_116_18 : zrun zP sv C 116 18 [l0] st h = zrun zP sv C 116 21 [l0] (.ref h.2.1 :: st) (znew h (4, [.null]) 1) := zx_go rfl rfl
theorem zs_116_21 : zrun zP sv C 116 21 [l0] (.ref a :: st) h = zrun zP sv C 116 22 [l0] (.ref a :: .ref a :: st) h := zx_go rfl rfl
theorem zs_116_22 : zrun zP sv C 116 22 [l0] st h = zrun zP sv C 116 24 [l0] (.int (nI 124) :: st) h := zx_go rfl rfl
theorem zs_116_24 : zrun zP sv C 116 24 [l0] [v1, .ref b, r0, r1] h = zrc (h.1 b) 4 (zbk (C 164 [.ref b, v1] h) (fun v h' => zrun zP sv C 116 27 [l0] (v.toList ++ [r0, r1]) h') (fun E h' => some (.inr E, h'))) := zx_cv (x0 := 4) rfl rfl rfl rfl rfl ⟨Nat.le_of_ble_eq_true rfl, rfl⟩ (fun _ _ => rfl)
theorem zs_116_27 : zrun zP sv C 116 27 [l0] (.ref b :: .ref a :: st) h = zpfd (h.1 a) 10 1 4 (.ref b) (fun c => zrun zP sv C 116 30 [l0] st (zup h a c)) := zx_putf (x0 := 4) rfl rfl
theorem zs_116_30 : zrun zP sv C 116 30 [.val (.ref a)] st h = zrun zP sv C 116 31 [.val (.ref a)] (.ref a :: st) h := zx_go rfl rfl
theorem zs_116_31 : zrun zP sv C 116 31 [l0] st h = zrun zP sv C 116 34 [l0] (.ref h.2.1 :: st) (znew h (4, [.null]) 1) := zx_go rfl rfl
theorem zs_116_34 : zrun zP sv C 116 34 [l0] (.ref a :: st) h = zrun zP sv C 116 35 [l0] (.ref a :: .ref a :: st) h := zx_go rfl rfl
theorem zs_116_35 : zrun zP sv C 116 35 [l0] st h = zrun zP sv C 116 37 [l0] (.int (nI 124) :: st) h := zx_go rfl rfl
theorem zs_116_37 : zrun zP sv C 116 37 [l0] [v1, .ref b, r0, r1] h = zrc (h.1 b) 4 (zbk (C 164 [.ref b, v1] h) (fun v h' => zrun zP sv C 116 40 [l0] (v.toList ++ [r0, r1]) h') (fun E h' => some (.inr E, h'))) := zx_cv (x0 := 4) rfl rfl rfl rfl rfl ⟨Nat.le_of_ble_eq_true rfl, rfl⟩ (fun _ _ => rfl)
theorem zs_116_40 : zrun zP sv C 116 40 [l0] (.ref b :: .ref a :: st) h = zpfd (h.1 a) 10 2 4 (.ref b) (fun c => zrun zP sv C 116 43 [l0] st (zup h a c)) := zx_putf (x0 := 4) rfl rfl
theorem zs_116_43 : zrun zP sv C 116 43 [l0] [] h = some (.inl none, h) := zx_end rfl rfl
theorem zs_117_0 : zrun zP sv C 117 0 [l0, l1, l2, l3] st h = zrun zP sv C 117 1 [l0, l1, l2, l3] (.int 0 :: st) h := zx_go rfl rfl
theorem zs_117_1 (hs : znw l3 = true) : zrun zP sv C 117 1 [l0, l1, l2, l3] (.int x :: st) h = zrun zP sv C 117 2 [l0, l1, l2, .val (.int x)] st h := zx_st hs rfl rfl rfl rfl rfl rfl
theorem zs_117_2 : zrun zP sv C 117 2 [l0, l1, l2, .val (.int x)] st h = zrun zP sv C 117 3 [l0, l1, l2, .val (.int x)] (.int x :: st) h := zx_go rfl rfl
theorem zs_117_3 : zrun zP sv C 117 3 [l0, .val (.ref a), l2, l3] st h = zrun zP sv C 117 4 [l0, .val (.ref a), l2, l3] (.ref a :: st) h := zx_go rfl rfl
theorem zs_117_4 : zrun zP sv C 117 4 [l0, l1, l2, l3] [.ref b, r0] h = zrc (h.1 b) 6 (zbk (C 182 [.ref b] h) (fun v h' => zrun zP sv C 117 7 [l0, l1, l2, l3] (v.toList ++ [r0]) h') (fun E h' => some (.inr E, h'))) := zx_cv (x0 := 6) rfl rfl rfl rfl rfl ⟨Nat.le_of_ble_eq_true rfl, rfl⟩ (fun _ _ => rfl)
theorem zs_117_7 : zrun zP sv C 117 7 [l0, l1, l2, l3] (.int y :: .int x :: st) h = if x < y then zrun zP sv C 117 10 [l0, l1, l2, l3] st h else zrun zP sv C 117 51 [l0, l1, l2, l3] st h := (zx_ic rfl rfl).trans zc3_if
theorem zs_117_10 : zrun zP sv C 117 10 [.val (.ref a), l1, l2, l3] st h = zrun zP sv C 117 11 [.val (.ref a), l1, l2, l3] (.ref a :: st) h := zx_go rfl rfl
theorem zs_117_11 : zrun zP sv C 117 11 [l0, l1, l2, l3] (.ref a :: st) h = zfld (h.1 a) 10 0 (fun v => zrun zP sv C 117 14 [l0, l1, l2, l3] (v :: st) h) := zx_getf rfl rfl
theorem zs_117_14 : zrun zP sv C 117 14 [l0, l1, l2, .val (.int x)] st h = zrun zP sv C 117 15 [l0, l1, l2, .val (.int x)] (.int x :: st) h := zx_go rfl rfl
theorem zs_117_15 : zrun zP sv C 117 15 [l0, l1, l2, l3] st h = zrun zP sv C 117 16 [l0, l1, l2, l3] (.int (nI 1) :: st) h := zx_go rfl rfl
theorem zs_117_16 : zrun zP sv C 117 16 [.val (.ref a), l1, l2, l3] st h = zrun zP sv C 117 17 [.val (.ref a), l1, l2, l3] (.ref a :: st) h := zx_go rfl rfl
theorem zs_117_17 : zrun zP sv C 117 17 [l0, l1, l2, l3] (.ref a :: st) h = zfld (h.1 a) 10 0 (fun v => zrun zP sv C 117 20 [l0, l1, l2, l3] (v :: st) h) := zx_getf rfl rfl
theorem zs_117_20 : zrun zP sv C 117 20 [l0, .val (.ref a), l2, l3] st h = zrun zP sv C 117 21 [l0, .val (.ref a), l2, l3] (.ref a :: st) h := zx_go rfl rfl
theorem zs_117_21 : zrun zP sv C 117 21 [l0, l1, l2, .val (.int x)] st h = zrun zP sv C 117 22 [l0, l1, l2, .val (.int x)] (.int x :: st) h := zx_go rfl rfl
theorem zs_117_22 : zrun zP sv C 117 22 [l0, l1, l2, l3] [v1, .ref b, r0, r1, r2, r3] h = zrc (h.1 b) 6 (zbk (C 186 [.ref b, v1] h) (fun v h' => zrun zP sv C 117 25 [l0, l1, l2, l3] (v.toList ++ [r0, r1, r2, r3]) h') (fun E h' => some (.inr E, h'))) := zx_cv (x0 := 6) rfl rfl rfl rfl rfl ⟨Nat.le_of_ble_eq_true rfl, rfl⟩ (fun _ _ => rfl)
theorem zs_117_25 : zrun zP sv C 117 25 [l0, l1, l2, l3] [v1, .ref b, r0, r1, r2] h = zrc (h.1 b) 4 (zbk (C 165 [.ref b, v1] h) (fun v h' => zrun zP sv C 117 28 [l0, l1, l2, l3] (v.toList ++ [r0, r1, r2]) h') (fun E h' => some (.inr E, h'))) := zx_cv (x0 := 4) rfl rfl rfl rfl rfl ⟨Nat.le_of_ble_eq_true rfl, rfl⟩ (fun _ _ => rfl)
theorem zs_117_28 : zrun zP sv C 117 28 [l0, l1, l2, l3] (.int y :: .int x :: st) h = zrun zP sv C 117 29 [l0, l1, l2, l3] (.int (x + y) :: st) h := zx_go rfl rfl
theorem zs_117_29 : zrun zP sv C 117 29 [.val (.ref a), l1, l2, l3] st h = zrun zP sv C 117 30 [.val (.ref a), l1, l2, l3] (.ref a :: st) h := zx_go rfl rfl
theorem zs_117_30 : zrun zP sv C 117 30 [l0, l1, l2, l3] (.ref a :: st) h = zfld (h.1 a) 10 0 (fun v => zrun zP sv C 117 33 [l0, l1, l2, l3] (v :: st) h) := zx_getf rfl rfl
theorem zs_117_33 : zrun zP sv C 117 33 [l0, .val (.ref a), l2, l3] st h = zrun zP sv C 117 34 [l0, .val (.ref a), l2, l3] (.ref a :: st) h := zx_go rfl rfl
theorem zs_117_34 : zrun zP sv C 117 34 [l0, l1, l2, .val (.int x)] st h = zrun zP sv C 117 35 [l0, l1, l2, .val (.int x)] (.int x :: st) h := zx_go rfl rfl
theorem zs_117_35 : zrun zP sv C 117 35 [l0, l1, l2, l3] [v1, .ref b, r0, r1, r2, r3] h = zrc (h.1 b) 6 (zbk (C 187 [.ref b, v1] h) (fun v h' => zrun zP sv C 117 38 [l0, l1, l2, l3] (v.toList ++ [r0, r1, r2, r3]) h') (fun E h' => some (.inr E, h'))) := zx_cv (x0 := 6) rfl rfl rfl rfl rfl ⟨Nat.le_of_ble_eq_true rfl, rfl⟩ (fun _ _ => rfl)
theorem zs_117_38 : zrun zP sv C 117 38 [l0, l1, l2, l3] [v1, .ref b, r0, r1, r2] h = zrc (h.1 b) 4 (zbk (C 165 [.ref b, v1] h) (fun v h' => zrun zP sv C 117 41 [l0, l1, l2, l3] (v.toList ++ [r0, r1, r2]) h') (fun E h' => some (.inr E, h'))) := zx_cv (x0 := 4) rfl rfl rfl rfl rfl ⟨Nat.le_of_ble_eq_true rfl, rfl⟩ (fun _ _ => rfl)
theorem zs_117_41 : zrun zP sv C 117 41 [l0, l1, l2, l3] (.int y :: .int x :: st) h = zrun zP sv C 117 42 [l0, l1, l2, l3] (.int (x + y) :: st) h := zx_go rfl rfl
theorem zs_117_42 : zrun zP sv C 117 42 [l0, l1, l2, l3] [v2, v1, .ref b] h = zrc (h.1 b) 4 (zbk (C 166 [.ref b, v1, v2] h) (fun v h' => zrun zP sv C 117 45 [l0, l1, l2, l3] (v.toList ++ []) h') (fun E h' => some (.inr E, h'))) := zx_cv (x0 := 4) rfl rfl rfl rfl rfl ⟨Nat.le_of_ble_eq_true rfl, rfl⟩ (fun _ _ => rfl)
theorem zs_117_45 : zrun zP sv C 117 45 [l0, l1, l2, .val (.int x)] st h = zrun zP sv C 117 48 [l0, l1, l2, .val (.int (x + (nI 1)))] st h := zx_ii rfl rfl rfl rfl rfl
theorem zs_117_48 : zrun zP sv C 117 48 [l0, l1, l2, l3] st h = zrun zP sv C 117 2 [l0, l1, l2, l3] st h := zx_go rfl rfl
theorem zs_117_51 : zrun zP sv C 117 51 [.val (.ref a), l1, l2, l3] st h = zrun zP sv C 117 52 [.val (.ref a), l1, l2, l3] (.ref a :: st) h := zx_go rfl rfl
theorem zs_117_52 : zrun zP sv C 117 52 [l0, l1, l2, l3] (.ref a :: st) h = zfld (h.1 a) 10 0 (fun v => zrun zP sv C 117 55 [l0, l1, l2, l3] (v :: st) h) := zx_getf rfl rfl
theorem zs_117_55 : zrun zP sv C 117 55 [l0, l1, .val (.int x), l3] st h = zrun zP sv C 117 56 [l0, l1, .val (.int x), l3] (.int x :: st) h := zx_go rfl rfl
theorem zs_117_56 : zrun zP sv C 117 56 [l0, l1, l2, l3] [v1, .ref b] h = zrc (h.1 b) 4 (zbk (C 165 [.ref b, v1] h) (fun v h' => zrun zP sv C 117 59 [l0, l1, l2, l3] (v.toList ++ []) h') (fun E h' => some (.inr E, h'))) := zx_cv (x0 := 4) rfl rfl rfl rfl rfl ⟨Nat.le_of_ble_eq_true rfl, rfl⟩ (fun _ _ => rfl)
theorem zs_117_59 : zrun zP sv C 117 59 [l0, l1, l2, l3] [.int x] h = some (.inl (some (.int x)), h) := zx_end rfl rfl
theorem zs_118_0 : zrun zP sv C 118 0 [l0, l1, l2, l3, l4, l5] st h = zrun zP sv C 118 1 [l0, l1, l2, l3, l4, l5] (.int 0 :: st) h := zx_go rfl rfl
theorem zs_118_1 (hs : znw l3 = true) : zrun zP sv C 118 1 [l0, l1, l2, l3, l4, l5] (.int x :: st) h = zrun zP sv C 118 2 [l0, l1, l2, .val (.int x), l4, l5] st h := zx_st hs rfl rfl rfl rfl rfl rfl
theorem zs_118_2 : zrun zP sv C 118 2 [l0, l1, l2, .val (.int x), l4, l5] st h = zrun zP sv C 118 3 [l0, l1, l2, .val (.int x), l4, l5] (.int x :: st) h := zx_go rfl rfl
theorem zs_118_3 : zrun zP sv C 118 3 [l0, .val (.ref a), l2, l3, l4, l5] st h = zrun zP sv C 118 4 [l0, .val (.ref a), l2, l3, l4, l5] (.ref a :: st) h := zx_go rfl rfl
theorem zs_118_4 : zrun zP sv C 118 4 [l0, l1, l2, l3, l4, l5] [.ref b, r0] h = zrc (h.1 b) 6 (zbk (C 182 [.ref b] h) (fun v h' => zrun zP sv C 118 7 [l0, l1, l2, l3, l4, l5] (v.toList ++ [r0]) h') (fun E h' => some (.inr E, h'))) := zx_cv (x0 := 6) rfl rfl rfl rfl rfl ⟨Nat.le_of_ble_eq_true rfl, rfl⟩ (fun _ _ => rfl)
theorem zs_118_7 : zrun zP sv C 118 7 [l0, l1, l2, l3, l4, l5] (.int y :: .int x :: st) h = if x < y then zrun zP sv C 118 10 [l0, l1, l2, l3, l4, l5] st h else zrun zP sv C 118 61 [l0, l1, l2, l3, l4, l5] st h := (zx_ic rfl rfl).trans zc3_if
theorem zs_118_10 : zrun zP sv C 118 10 [.val (.ref a), l1, l2, l3, l4, l5] st h = zrun zP sv C 118 11 [.val (.ref a), l1, l2, l3, l4, l5] (.ref a :: st) h := zx_go rfl rfl
theorem zs_118_11 : zrun zP sv C 118 11 [l0, l1, l2, l3, l4, l5] (.ref a :: st) h = zfld (h.1 a) 10 0 (fun v => zrun zP sv C 118 14 [l0, l1, l2, l3, l4, l5] (v :: st) h) := zx_getf rfl rfl
theorem zs_118_14 : zrun zP sv C 118 14 [l0, .val (.ref a), l2, l3, l4, l5] st h = zrun zP sv C 118 15 [l0, .val (.ref a), l2, l3, l4, l5] (.ref a :: st) h := zx_go rfl rfl
theorem zs_118_15 : zrun zP sv C 118 15 [l0, l1, l2, .val (.int x), l4, l5] st h = zrun zP sv C 118 16 [l0, l1, l2, .val (.int x), l4, l5] (.int x :: st) h := zx_go rfl rfl
theorem zs_118_16 : zrun zP sv C 118 16 [l0, l1, l2, l3, l4, l5] [v1, .ref b, r0] h = zrc (h.1 b) 6 (zbk (C 186 [.ref b, v1] h) (fun v h' => zrun zP sv C 118 19 [l0, l1, l2, l3, l4, l5] (v.toList ++ [r0]) h') (fun E h' => some (.inr E, h'))) := zx_cv (x0 := 6) rfl rfl rfl rfl rfl ⟨Nat.le_of_ble_eq_true rfl, rfl⟩ (fun _ _ => rfl)
theorem zs_118_19 : zrun zP sv C 118 19 [l0, l1, l2, l3, l4, l5] [v1, .ref b] h = zrc (h.1 b) 4 (zbk (C 165 [.ref b, v1] h) (fun v h' => zrun zP sv C 118 22 [l0, l1, l2, l3, l4, l5] (v.toList ++ []) h') (fun E h' => some (.inr E, h'))) := zx_cv (x0 := 4) rfl rfl rfl rfl rfl ⟨Nat.le_of_ble_eq_true rfl, rfl⟩ (fun _ _ => rfl)
theorem zs_118_22 (hs : znw l4 = true) : zrun zP sv C 118 22 [l0, l1, l2, l3, l4, l5] (.int x :: st) h = zrun zP sv C 118 24 [l0, l1, l2, l3, .val (.int x), l5] st h := zx_st hs rfl rfl rfl rfl rfl rfl
theorem zs_118_24 : zrun zP sv C 118 24 [.val (.ref a), l1, l2, l3, l4, l5] st h = zrun zP sv C 118 25 [.val (.ref a), l1, l2, l3, l4, l5] (.ref a :: st) h := zx_go rfl rfl
theorem zs_118_25 : zrun zP sv C 118 25 [l0, l1, l2, l3, l4, l5] (.ref a :: st) h = zfld (h.1 a) 10 0 (fun v => zrun zP sv C 118 28 [l0, l1, l2, l3, l4, l5] (v :: st) h) := zx_getf rfl rfl
theorem zs_118_28 : zrun zP sv C 118 28 [l0, .val (.ref a), l2, l3, l4, l5] st h = zrun zP sv C 118 29 [l0, .val (.ref a), l2, l3, l4, l5] (.ref a :: st) h := zx_go rfl rfl
theorem zs_118_29 : zrun zP sv C 118 29 [l0, l1, l2, .val (.int x), l4, l5] st h = zrun zP sv C 118 30 [l0, l1, l2, .val (.int x), l4, l5] (.int x :: st) h := zx_go rfl rfl
theorem zs_118_30 : zrun zP sv C 118 30 [l0, l1, l2, l3, l4, l5] [v1, .ref b, r0] h = zrc (h.1 b) 6 (zbk (C 187 [.ref b, v1] h) (fun v h' => zrun zP sv C 118 33 [l0, l1, l2, l3, l4, l5] (v.toList ++ [r0]) h') (fun E h' => some (.inr E, h'))) := zx_cv (x0 := 6) rfl rfl rfl rfl rfl ⟨Nat.le_of_ble_eq_true rfl, rfl⟩ (fun _ _ => rfl)
theorem zs_118_33 : zrun zP sv C 118 33 [l0, l1, l2, l3, l4, l5] [v1, .ref b] h = zrc (h.1 b) 4 (zbk (C 165 [.ref b, v1] h) (fun v h' => zrun zP sv C 118 36 [l0, l1, l2, l3, l4, l5] (v.toList ++ []) h') (fun E h' => some (.inr E, h'))) := zx_cv (x0 := 4) rfl rfl rfl rfl rfl ⟨Nat.le_of_ble_eq_true rfl, rfl⟩ (fun _ _ => rfl)
theorem zs_118_36 (hs : znw l5 = true) : zrun zP sv C 118 36 [l0, l1, l2, l3, l4, l5] (.int x :: st) h = zrun zP sv C 118 38 [l0, l1, l2, l3, l4, .val (.int x)] st h := zx_st hs rfl rfl rfl rfl rfl rfl
theorem zs_118_38 : zrun zP sv C 118 38 [.val (.ref a), l1, l2, l3, l4, l5] st h = zrun zP sv C 118 39 [.val (.ref a), l1, l2, l3, l4, l5] (.ref a :: st) h := zx_go rfl rfl
theorem zs_118_39 : zrun zP sv C 118 39 [l0, l1, l2, l3, l4, l5] (.ref a :: st) h = zfld (h.1 a) 10 0 (fun v => zrun zP sv C 118 42 [l0, l1, l2, l3, l4, l5] (v :: st) h) := zx_getf rfl rfl
theorem zs_118_42 : zrun zP sv C 118 42 [l0, l1, l2, .val (.int x), l4, l5] st h = zrun zP sv C 118 43 [l0, l1, l2, .val (.int x), l4, l5] (.int x :: st) h := zx_go rfl rfl
theorem zs_118_43 : zrun zP sv C 118 43 [l0, l1, l2, l3, l4, l5] st h = zrun zP sv C 118 44 [l0, l1, l2, l3, l4, l5] (.int (nI 1) :: st) h := zx_go rfl rfl
theorem zs_118_44 : zrun zP sv C 118 44 [l0, l1, l2, l3, .val (.int x), l5] st h = zrun zP sv C 118 46 [l0, l1, l2, l3, .val (.int x), l5] (.int x :: st) h := zx_go rfl rfl
theorem zs_118_46 : zrun zP sv C 118 46 [l0, l1, l2, l3, l4, .val (.int x)] st h = zrun zP sv C 118 48 [l0, l1, l2, l3, l4, .val (.int x)] (.int x :: st) h := zx_go rfl rfl
theorem zs_118_48 : zrun zP sv C 118 48 [l0, l1, l2, l3, l4, l5] [.int y, .int x, r0, r1, r2] h = zrun zP sv C 118 51 [l0, l1, l2, l3, l4, l5] [.int (if x < y then y else x), r0, r1, r2] h := zx_go rfl rfl
theorem zs_118_51 : zrun zP sv C 118 51 [l0, l1, l2, l3, l4, l5] (.int y :: .int x :: st) h = zrun zP sv C 118 52 [l0, l1, l2, l3, l4, l5] (.int (x + y) :: st) h := zx_go rfl rfl
theorem zs_118_52 : zrun zP sv C 118 52 [l0, l1, l2, l3, l4, l5] [v2, v1, .ref b] h = zrc (h.1 b) 4 (zbk (C 166 [.ref b, v1, v2] h) (fun v h' => zrun zP sv C 118 55 [l0, l1, l2, l3, l4, l5] (v.toList ++ []) h') (fun E h' => some (.inr E, h'))) := zx_cv (x0 := 4) rfl rfl rfl rfl rfl ⟨Nat.le_of_ble_eq_true rfl, rfl⟩ (fun _ _ => rfl)
theorem zs_118_55 : zrun zP sv C 118 55 [l0, l1, l2, .val (.int x), l4, l5] st h = zrun zP sv C 118 58 [l0, l1, l2, .val (.int (x + (nI 1))), l4, l5] st h := zx_ii rfl rfl rfl rfl rfl
theorem zs_118_58 : zrun zP sv C 118 58 [l0, l1, l2, l3, l4, l5] st h = zrun zP sv C 118 2 [l0, l1, l2, l3, l4, l5] st h := zx_go rfl rfl
theorem zs_118_61 : zrun zP sv C 118 61 [.val (.ref a), l1, l2, l3, l4, l5] st h = zrun zP sv C 118 62 [.val (.ref a), l1, l2, l3, l4, l5] (.ref a :: st) h := zx_go rfl rfl
theorem zs_118_62 : zrun zP sv C 118 62 [l0, l1, l2, l3, l4, l5] (.ref a :: st) h = zfld (h.1 a) 10 0 (fun v => zrun zP sv C 118 65 [l0, l1, l2, l3, l4, l5] (v :: st) h) := zx_getf rfl rfl
theorem zs_118_65 : zrun zP sv C 118 65 [l0, l1, .val (.int x), l3, l4, l5] st h = zrun zP sv C 118 66 [l0, l1, .val (.int x), l3, l4, l5] (.int x :: st) h := zx_go rfl rfl
theorem zs_118_66 : zrun zP sv C 118 66 [l0, l1, l2, l3, l4, l5] [v1, .ref b] h = zrc (h.1 b) 4 (zbk (C 165 [.ref b, v1] h) (fun v h' => zrun zP sv C 118 69 [l0, l1, l2, l3, l4, l5] (v.toList ++ []) h') (fun E h' => some (.inr E, h'))) := zx_cv (x0 := 4) rfl rfl rfl rfl rfl ⟨Nat.le_of_ble_eq_true rfl, rfl⟩ (fun _ _ => rfl)
theorem zs_118_69 : zrun zP sv C 118 69 [l0, l1, l2, l3, l4, l5] [.int x] h = some (.inl (some (.int x)), h) := zx_end rfl rfl
theorem zs_119_0 : zrun zP sv C 119 0 [l0, l1, l2] st h = zrun zP sv C 119 1 [l0, l1, l2] (.int 0 :: st) h := zx_go rfl rfl
theorem zs_119_1 (hs : znw l2 = true) : zrun zP sv C 119 1 [l0, l1, l2] (.int x :: st) h = zrun zP sv C 119 2 [l0, l1, .val (.int x)] st h := zx_st hs rfl rfl rfl rfl rfl rfl
theorem zs_119_2 : zrun zP sv C 119 2 [l0, l1, .val (.int x)] st h = zrun zP sv C 119 3 [l0, l1, .val (.int x)] (.int x :: st) h := zx_go rfl rfl
theorem zs_119_3 : zrun zP sv C 119 3 [l0, .val (.ref a), l2] st h = zrun zP sv C 119 4 [l0, .val (.ref a), l2] (.ref a :: st) h := zx_go rfl rfl
theorem zs_119_4 : zrun zP sv C 119 4 [l0, l1, l2] [.ref b, r0] h = zrc (h.1 b) 6 (zbk (C 182 [.ref b] h) (fun v h' => zrun zP sv C 119 7 [l0, l1, l2] (v.toList ++ [r0]) h') (fun E h' => some (.inr E, h'))) := zx_cv (x0 := 6) rfl rfl rfl rfl rfl ⟨Nat.le_of_ble_eq_true rfl, rfl⟩ (fun _ _ => rfl)
theorem zs_119_7 : zrun zP sv C 119 7 [l0, l1, l2] (.int y :: .int x :: st) h = if x < y then zrun zP sv C 119 10 [l0, l1, l2] st h else zrun zP sv C 119 30 [l0, l1, l2] st h := (zx_ic rfl rfl).trans zc3_if
theorem zs_119_10 : zrun zP sv C 119 10 [.val (.ref a), l1, l2] st h = zrun zP sv C 119 11 [.val (.ref a), l1, l2] (.ref a :: st) h := zx_go rfl rfl
theorem zs_119_11 : zrun zP sv C 119 11 [l0, l1, l2] (.ref a :: st) h = zfld (h.1 a) 10 0 (fun v => zrun zP sv C 119 14 [l0, l1, l2] (v :: st) h) := zx_getf rfl rfl
theorem zs_119_14 : zrun zP sv C 119 14 [l0, l1, .val (.int x)] st h = zrun zP sv C 119 15 [l0, l1, .val (.int x)] (.int x :: st) h := zx_go rfl rfl
theorem zs_119_15 : zrun zP sv C 119 15 [.val (.ref a), l1, l2] st h = zrun zP sv C 119 16 [.val (.ref a), l1, l2] (.ref a :: st) h := zx_go rfl rfl
theorem zs_119_16 : zrun zP sv C 119 16 [l0, .val (.ref a), l2] st h = zrun zP sv C 119 17 [l0, .val (.ref a), l2] (.ref a :: st) h := zx_go rfl rfl
theorem zs_119_17 : zrun zP sv C 119 17 [l0, l1, .val (.int x)] st h = zrun zP sv C 119 18 [l0, l1, .val (.int x)] (.int x :: st) h := zx_go rfl rfl
theorem zs_119_18 : zrun zP sv C 119 18 [l0, l1, l2] [v2, v1, .ref b, r0, r1] h = zrc (h.1 b) 10 (zbk (C 120 [.ref b, v1, v2] h) (fun v h' => zrun zP sv C 119 21 [l0, l1, l2] (v.toList ++ [r0, r1]) h') (fun E h' => some (.inr E, h'))) := zx_cv (x0 := 10) rfl rfl rfl rfl rfl ⟨Nat.le_of_ble_eq_true rfl, rfl⟩ (fun _ _ => rfl)
theorem zs_119_21 : zrun zP sv C 119 21 [l0, l1, l2] [v2, v1, .ref b] h = zrc (h.1 b) 4 (zbk (C 166 [.ref b, v1, v2] h) (fun v h' => zrun zP sv C 119 24 [l0, l1, l2] (v.toList ++ []) h') (fun E h' => some (.inr E, h'))) := zx_cv (x0 := 4) rfl rfl rfl rfl rfl ⟨Nat.le_of_ble_eq_true rfl, rfl⟩ (fun _ _ => rfl)
theorem zs_119_24 : zrun zP sv C 119 24 [l0, l1, .val (.int x)] st h = zrun zP sv C 119 27 [l0, l1, .val (.int (x + (nI 1)))] st h := zx_ii rfl rfl rfl rfl rfl
theorem zs_119_27 : zrun zP sv C 119 27 [l0, l1, l2] st h = zrun zP sv C 119 2 [l0, l1, l2] st h := zx_go rfl rfl
theorem zs_119_30 : zrun zP sv C 119 30 [.val (.ref a), l1, l2] st h = zrun zP sv C 119 31 [.val (.ref a), l1, l2] (.ref a :: st) h := zx_go rfl rfl
theorem zs_119_31 : zrun zP sv C 119 31 [l0, l1, l2] (.ref a :: st) h = zfld (h.1 a) 10 0 (fun v => zrun zP sv C 119 34 [l0, l1, l2] (v :: st) h) := zx_getf rfl rfl
theorem zs_119_34 : zrun zP sv C 119 34 [l0, .val (.ref a), l2] st h = zrun zP sv C 119 35 [l0, .val (.ref a), l2] (.ref a :: st) h := zx_go rfl rfl
theorem zs_119_35 : zrun zP sv C 119 35 [l0, l1, l2] [.ref b, r0] h = zrc (h.1 b) 6 (zbk (C 183 [.ref b] h) (fun v h' => zrun zP sv C 119 38 [l0, l1, l2] (v.toList ++ [r0]) h') (fun E h' => some (.inr E, h'))) := zx_cv (x0 := 6) rfl rfl rfl rfl rfl ⟨Nat.le_of_ble_eq_true rfl, rfl⟩ (fun _ _ => rfl)
theorem zs_119_38 : zrun zP sv C 119 38 [l0, l1, l2] [v1, .ref b] h = zrc (h.1 b) 4 (zbk (C 165 [.ref b, v1] h) (fun v h' => zrun zP sv C 119 41 [l0, l1, l2] (v.toList ++ []) h') (fun E h' => some (.inr E, h'))) := zx_cv (x0 := 4) rfl rfl rfl rfl rfl ⟨Nat.le_of_ble_eq_true rfl, rfl⟩ (fun _ _ => rfl)
theorem zs_119_41 : zrun zP sv C 119 41 [l0, l1, l2] [.int x] h = some (.inl (some (.int x)), h) := zx_end rfl rfl
theorem zs_120_0 : zrun zP sv C 120 0 [l0, .val (.ref a), l2, l3, l4, l5] st h = zrun zP sv C 120 1 [l0, .val (.ref a), l2, l3, l4, l5] (.ref a :: st) h := zx_go rfl rfl
theorem zs_120_1 : zrun zP sv C 120 1 [l0, l1, .val (.int x), l3, l4, l5] st h = zrun zP sv C 120 2 [l0, l1, .val (.int x), l3, l4, l5] (.int x :: st) h := zx_go rfl rfl
theorem zs_120_2 : zrun zP sv C 120 2 [l0, l1, l2, l3, l4, l5] [v1, .ref b] h = zrc (h.1 b) 6 (zbk (C 184 [.ref b, v1] h) (fun v h' => zrun zP sv C 120 5 [l0, l1, l2, l3, l4, l5] (v.toList ++ []) h') (fun E h' => some (.inr E, h'))) := zx_cv (x0 := 6) rfl rfl rfl rfl rfl ⟨Nat.le_of_ble_eq_true rfl, rfl⟩ (fun _ _ => rfl)
theorem zs_120_5 (hs : znw l3 = true) : zrun zP sv C 120 5 [l0, l1, l2, l3, l4, l5] (.int x :: st) h = zrun zP sv C 120 6 [l0, l1, l2, .val (.int x), l4, l5] st h := zx_st hs rfl rfl rfl rfl rfl rfl
theorem zs_120_6 : zrun zP sv C 120 6 [l0, l1, l2, .val (.int x), l4, l5] st h = zrun zP sv C 120 7 [l0, l1, l2, .val (.int x), l4, l5] (.int x :: st) h := zx_go rfl rfl
theorem zs_120_7 : zrun zP sv C 120 7 [l0, l1, l2, l3, l4, l5] st h = zrun zP sv C 120 9 [l0, l1, l2, l3, l4, l5] (.int (nI 118) :: st) h := zx_go rfl rfl
theorem zs_120_9 : zrun zP sv C 120 9 [l0, l1, l2, l3, l4, l5] (.int y :: .int x :: st) h = if x = y then zrun zP sv C 120 12 [l0, l1, l2, l3, l4, l5] st h else zrun zP sv C 120 14 [l0, l1, l2, l3, l4, l5] st h := (zx_ic rfl rfl).trans zc1_if
theorem zs_120_12 : zrun zP sv C 120 12 [l0, l1, l2, l3, l4, l5] st h = zrun zP sv C 120 13 [l0, l1, l2, l3, l4, l5] (.int (nI 1) :: st) h := zx_go rfl rfl
theorem zs_120_13 : zrun zP sv C 120 13 [l0, l1, l2, l3, l4, l5] [.int x] h = some (.inl (some (.int x)), h) := zx_end rfl rfl
theorem zs_120_14 : zrun zP sv C 120 14 [.val (.ref a), l1, l2, l3, l4, l5] st h = zrun zP sv C 120 15 [.val (.ref a), l1, l2, l3, l4, l5] (.ref a :: st) h := zx_go rfl rfl
theorem zs_120_15 : zrun zP sv C 120 15 [l0, l1, l2, l3, l4, l5] (.ref a :: st) h = zfld (h.1 a) 10 0 (fun v => zrun zP sv C 120 18 [l0, l1, l2, l3, l4, l5] (v :: st) h) := zx_getf rfl rfl
theorem zs_120_18 : zrun zP sv C 120 18 [l0, .val (.ref a), l2, l3, l4, l5] st h = zrun zP sv C 120 19 [l0, .val (.ref a), l2, l3, l4, l5] (.ref a :: st) h := zx_go rfl rfl
theorem zs_120_19 : zrun zP sv C 120 19 [l0, l1, .val (.int x), l3, l4, l5] st h = zrun zP sv C 120 20 [l0, l1, .val (.int x), l3, l4, l5] (.int x :: st) h := zx_go rfl rfl
theorem zs_120_20 : zrun zP sv C 120 20 [l0, l1, l2, l3, l4, l5] [v1, .ref b, r0] h = zrc (h.1 b) 6 (zbk (C 186 [.ref b, v1] h) (fun v h' => zrun zP sv C 120 23 [l0, l1, l2, l3, l4, l5] (v.toList ++ [r0]) h') (fun E h' => some (.inr E, h'))) := zx_cv (x0 := 6) rfl rfl rfl rfl rfl ⟨Nat.le_of_ble_eq_true rfl, rfl⟩ (fun _ _ => rfl)
theorem zs_120_23 : zrun zP sv C 120 23 [l0, l1, l2, l3, l4, l5] [v1, .ref b] h = zrc (h.1 b) 4 (zbk (C 165 [.ref b, v1] h) (fun v h' => zrun zP sv C 120 26 [l0, l1, l2, l3, l4, l5] (v.toList ++ []) h') (fun E h' => some (.inr E, h'))) := zx_cv (x0 := 4) rfl rfl rfl rfl rfl ⟨Nat.le_of_ble_eq_true rfl, rfl⟩ (fun _ _ => rfl)
theorem zs_120_26 (hs : znw l4 = true) : zrun zP sv C 120 26 [l0, l1, l2, l3, l4, l5] (.int x :: st) h = zrun zP sv C 120 28 [l0, l1, l2, l3, .val (.int x), l5] st h := zx_st hs rfl rfl rfl rfl rfl rfl
theorem zs_120_28 : zrun zP sv C 120 28 [.val (.ref a), l1, l2, l3, l4, l5] st h = zrun zP sv C 120 29 [.val (.ref a), l1, l2, l3, l4, l5] (.ref a :: st) h := zx_go rfl rfl
theorem zs_120_29 : zrun zP sv C 120 29 [l0, l1, l2, l3, l4, l5] (.ref a :: st) h = zfld (h.1 a) 10 0 (fun v => zrun zP sv C 120 32 [l0, l1, l2, l3, l4, l5] (v :: st) h) := zx_getf rfl rfl
theorem zs_120_32 : zrun zP sv C 120 32 [l0, .val (.ref a), l2, l3, l4, l5] st h = zrun zP sv C 120 33 [l0, .val (.ref a), l2, l3, l4, l5] (.ref a :: st) h := zx_go rfl rfl
theorem zs_120_33 : zrun zP sv C 120 33 [l0, l1, .val (.int x), l3, l4, l5] st h = zrun zP sv C 120 34 [l0, l1, .val (.int x), l3, l4, l5] (.int x :: st) h := zx_go rfl rfl
theorem zs_120_34 : zrun zP sv C 120 34 [l0, l1, l2, l3, l4, l5] [v1, .ref b, r0] h = zrc (h.1 b) 6 (zbk (C 187 [.ref b, v1] h) (fun v h' => zrun zP sv C 120 37 [l0, l1, l2, l3, l4, l5] (v.toList ++ [r0]) h') (fun E h' => some (.inr E, h'))) := zx_cv (x0 := 6) rfl rfl rfl rfl rfl ⟨Nat.le_of_ble_eq_true rfl, rfl⟩ (fun _ _ => rfl)
theorem zs_120_37 : zrun zP sv C 120 37 [l0, l1, l2, l3, l4, l5] [v1, .ref b] h = zrc (h.1 b) 4 (zbk (C 165 [.ref b, v1] h) (fun v h' => zrun zP sv C 120 40 [l0, l1, l2, l3, l4, l5] (v.toList ++ []) h') (fun E h' => some (.inr E, h'))) := zx_cv (x0 := 4) rfl rfl rfl rfl rfl ⟨Nat.le_of_ble_eq_true rfl, rfl⟩ (fun _ _ => rfl)
theorem zs_120_40 (hs : znw l5 = true) : zrun zP sv C 120 40 [l0, l1, l2, l3, l4, l5] (.int x :: st) h = zrun zP sv C 120 42 [l0, l1, l2, l3, l4, .val (.int x)] st h := zx_st hs rfl rfl rfl rfl rfl rfl
theorem zs_120_42 : zrun zP sv C 120 42 [l0, l1, l2, .val (.int x), l4, l5] st h = zrun zP sv C 120 43 [l0, l1, l2, .val (.int x), l4, l5] (.int x :: st) h := zx_go rfl rfl
theorem zs_120_43 : zrun zP sv C 120 43 [l0, l1, l2, l3, l4, l5] st h = zrun zP sv C 120 45 [l0, l1, l2, l3, l4, l5] (.int (nI 42) :: st) h := zx_go rfl rfl
theorem zs_120_45 : zrun zP sv C 120 45 [l0, l1, l2, l3, l4, l5] (.int y :: .int x :: st) h = if x = y then zrun zP sv C 120 48 [l0, l1, l2, l3, l4, l5] st h else zrun zP sv C 120 56 [l0, l1, l2, l3, l4, l5] st h := (zx_ic rfl rfl).trans zc1_if
theorem zs_120_48 : zrun zP sv C 120 48 [l0, l1, l2, l3, .val (.int x), l5] st h = zrun zP sv C 120 50 [l0, l1, l2, l3, .val (.int x), l5] (.int x :: st) h := zx_go rfl rfl
theorem zs_120_50 : zrun zP sv C 120 50 [l0, l1, l2, l3, l4, .val (.int x)] st h = zrun zP sv C 120 52 [l0, l1, l2, l3, l4, .val (.int x)] (.int x :: st) h := zx_go rfl rfl
theorem zs_120_52 : zrun zP sv C 120 52 [l0, l1, l2, l3, l4, l5] (.int y :: .int x :: st) h = zrun zP sv C 120 53 [l0, l1, l2, l3, l4, l5] (.int (x + y) :: st) h := zx_go rfl rfl
theorem zs_120_53 : zrun zP sv C 120 53 [l0, l1, l2, l3, l4, l5] st h = zrun zP sv C 120 63 [l0, l1, l2, l3, l4, l5] st h := zx_go rfl rfl
theorem zs_120_56 : zrun zP sv C 120 56 [l0, l1, l2, l3, .val (.int x), l5] st h = zrun zP sv C 120 58 [l0, l1, l2, l3, .val (.int x), l5] (.int x :: st) h := zx_go rfl rfl
theorem zs_120_58 : zrun zP sv C 120 58 [l0, l1, l2, l3, l4, .val (.int x)] st h = zrun zP sv C 120 60 [l0, l1, l2, l3, l4, .val (.int x)] (.int x :: st) h := zx_go rfl rfl
theorem zs_120_60 : zrun zP sv C 120 60 [l0, l1, l2, l3, l4, l5] [.int y, .int x] h = zrun zP sv C 120 63 [l0, l1, l2, l3, l4, l5] [.int (if x < y then y else x)] h := zx_go rfl rfl
theorem zs_120_63 : zrun zP sv C 120 63 [l0, l1, l2, l3, l4, l5] [.int x] h = some (.inl (some (.int x)), h) := zx_end rfl rfl
theorem zs_121_0 : zrun zP sv C 121 0 [l0, l1, l2, l3, l4] st h = zrun zP sv C 121 1 [l0, l1, l2, l3, l4] (.int 0 :: st) h := zx_go rfl rfl
theorem zs_121_1 (hs : znw l4 = true) : zrun zP sv C 121 1 [l0, l1, l2, l3, l4] (.int x :: st) h = zrun zP sv C 121 3 [l0, l1, l2, l3, .val (.int x)] st h := zx_st hs rfl rfl rfl rfl rfl rfl
theorem zs_121_3 : zrun zP sv C 121 3 [l0, l1, l2, l3, .val (.int x)] st h = zrun zP sv C 121 5 [l0, l1, l2, l3, .val (.int x)] (.int x :: st) h := zx_go rfl rfl
theorem zs_121_5 : zrun zP sv C 121 5 [l0, .val (.ref a), l2, l3, l4] st h = zrun zP sv C 121 6 [l0, .val (.ref a), l2, l3, l4] (.ref a :: st) h := zx_go rfl rfl
theorem zs_121_6 : zrun zP sv C 121 6 [l0, l1, l2, l3, l4] [.ref b, r0] h = zrc (h.1 b) 6 (zbk (C 182 [.ref b] h) (fun v h' => zrun zP sv C 121 9 [l0, l1, l2, l3, l4] (v.toList ++ [r0]) h') (fun E h' => some (.inr E, h'))) := zx_cv (x0 := 6) rfl rfl rfl rfl rfl ⟨Nat.le_of_ble_eq_true rfl, rfl⟩ (fun _ _ => rfl)
theorem zs_121_9 : zrun zP sv C 121 9 [l0, l1, l2, l3, l4] (.int y :: .int x :: st) h = if x < y then zrun zP sv C 121 12 [l0, l1, l2, l3, l4] st h else zrun zP sv C 121 35 [l0, l1, l2, l3, l4] st h := (zx_ic rfl rfl).trans zc3_if
theorem zs_121_12 : zrun zP sv C 121 12 [.val (.ref a), l1, l2, l3, l4] st h = zrun zP sv C 121 13 [.val (.ref a), l1, l2, l3, l4] (.ref a :: st) h := zx_go rfl rfl
theorem zs_121_13 : zrun zP sv C 121 13 [l0, l1, l2, l3, l4] (.ref a :: st) h = zfld (h.1 a) 10 0 (fun v => zrun zP sv C 121 16 [l0, l1, l2, l3, l4] (v :: st) h) := zx_getf rfl rfl
theorem zs_121_16 : zrun zP sv C 121 16 [l0, l1, l2, l3, .val (.int x)] st h = zrun zP sv C 121 18 [l0, l1, l2, l3, .val (.int x)] (.int x :: st) h := zx_go rfl rfl
theorem zs_121_18 : zrun zP sv C 121 18 [.val (.ref a), l1, l2, l3, l4] st h = zrun zP sv C 121 19 [.val (.ref a), l1, l2, l3, l4] (.ref a :: st) h := zx_go rfl rfl
theorem zs_121_19 : zrun zP sv C 121 19 [l0, .val (.ref a), l2, l3, l4] st h = zrun zP sv C 121 20 [l0, .val (.ref a), l2, l3, l4] (.ref a :: st) h := zx_go rfl rfl
theorem zs_121_20 : zrun zP sv C 121 20 [l0, l1, l2, l3, .val (.int x)] st h = zrun zP sv C 121 22 [l0, l1, l2, l3, .val (.int x)] (.int x :: st) h := zx_go rfl rfl
theorem zs_121_22 : zrun zP sv C 121 22 [l0, l1, l2, .val (.ref a), l4] st h = zrun zP sv C 121 23 [l0, l1, l2, .val (.ref a), l4] (.ref a :: st) h := zx_go rfl rfl
theorem zs_121_23 : zrun zP sv C 121 23 [l0, l1, l2, l3, l4] [v3, v2, v1, .ref b, r0, r1] h = zrc (h.1 b) 10 (zbk (C 122 [.ref b, v1, v2, v3] h) (fun v h' => zrun zP sv C 121 26 [l0, l1, l2, l3, l4] (v.toList ++ [r0, r1]) h') (fun E h' => some (.inr E, h'))) := zx_cv (x0 := 10) rfl rfl rfl rfl rfl ⟨Nat.le_of_ble_eq_true rfl, rfl⟩ (fun _ _ => rfl)
theorem zs_121_26 : zrun zP sv C 121 26 [l0, l1, l2, l3, l4] [v2, v1, .ref b] h = zrc (h.1 b) 4 (zbk (C 166 [.ref b, v1, v2] h) (fun v h' => zrun zP sv C 121 29 [l0, l1, l2, l3, l4] (v.toList ++ []) h') (fun E h' => some (.inr E, h'))) := zx_cv (x0 := 4) rfl rfl rfl rfl rfl ⟨Nat.le_of_ble_eq_true rfl, rfl⟩ (fun _ _ => rfl)
theorem zs_121_29 : zrun zP sv C 121 29 [l0, l1, l2, l3, .val (.int x)] st h = zrun zP sv C 121 32 [l0, l1, l2, l3, .val (.int (x + (nI 1)))] st h := zx_ii rfl rfl rfl rfl rfl
theorem zs_121_32 : zrun zP sv C 121 32 [l0, l1, l2, l3, l4] st h = zrun zP sv C 121 3 [l0, l1, l2, l3, l4] st h := zx_go rfl rfl
theorem zs_121_35 : zrun zP sv C 121 35 [.val (.ref a), l1, l2, l3, l4] st h = zrun zP sv C 121 36 [.val (.ref a), l1, l2, l3, l4] (.ref a :: st) h := zx_go rfl rfl
theorem zs_121_36 : zrun zP sv C 121 36 [l0, l1, l2, l3, l4] (.ref a :: st) h = zfld (h.1 a) 10 0 (fun v => zrun zP sv C 121 39 [l0, l1, l2, l3, l4] (v :: st) h) := zx_getf rfl rfl
theorem zs_121_39 : zrun zP sv C 121 39 [l0, l1, .val (.int x), l3, l4] st h = zrun zP sv C 121 40 [l0, l1, .val (.int x), l3, l4] (.int x :: st) h := zx_go rfl rfl
theorem zs_121_40 : zrun zP sv C 121 40 [l0, l1, l2, l3, l4] [v1, .ref b] h = zrc (h.1 b) 4 (zbk (C 165 [.ref b, v1] h) (fun v h' => zrun zP sv C 121 43 [l0, l1, l2, l3, l4] (v.toList ++ []) h') (fun E h' => some (.inr E, h'))) := zx_cv (x0 := 4) rfl rfl rfl rfl rfl ⟨Nat.le_of_ble_eq_true rfl, rfl⟩ (fun _ _ => rfl)
theorem zs_121_43 : zrun zP sv C 121 43 [l0, l1, l2, l3, l4] [.int x] h = some (.inl (some (.int x)), h) := zx_end rfl rfl
theorem zs_122_0 : zrun zP sv C 122 0 [l0, .val (.ref a), l2, l3, l4] st h = zrun zP sv C 122 1 [l0, .val (.ref a), l2, l3, l4] (.ref a :: st) h := zx_go rfl rfl
theorem zs_122_1 : zrun zP sv C 122 1 [l0, l1, .val (.int x), l3, l4] st h = zrun zP sv C 122 2 [l0, l1, .val (.int x), l3, l4] (.int x :: st) h := zx_go rfl rfl
theorem zs_122_2 : zrun zP sv C 122 2 [l0, l1, l2, l3, l4] [v1, .ref b] h = zrc (h.1 b) 6 (zbk (C 184 [.ref b, v1] h) (fun v h' => zrun zP sv C 122 5 [l0, l1, l2, l3, l4] (v.toList ++ []) h') (fun E h' => some (.inr E, h'))) := zx_cv (x0 := 6) rfl rfl rfl rfl rfl ⟨Nat.le_of_ble_eq_true rfl, rfl⟩ (fun _ _ => rfl)
theorem zs_122_5 (hs : znw l4 = true) : zrun zP sv C 122 5 [l0, l1, l2, l3, l4] (.int x :: st) h = zrun zP sv C 122 7 [l0, l1, l2, l3, .val (.int x)] st h := zx_st hs rfl rfl rfl rfl rfl rfl
theorem zs_122_7 : zrun zP sv C 122 7 [l0, l1, l2, l3, .val (.int x)] st h = zrun zP sv C 122 9 [l0, l1, l2, l3, .val (.int x)] (.int x :: st) h := zx_go rfl rfl
theorem zs_122_9 : zrun zP sv C 122 9 [l0, l1, l2, l3, l4] st h = zrun zP sv C 122 11 [l0, l1, l2, l3, l4] (.int (nI 99) :: st) h := zx_go rfl rfl
theorem zs_122_11 : zrun zP sv C 122 11 [l0, l1, l2, l3, l4] (.int y :: .int x :: st) h = if x = y then zrun zP sv C 122 14 [l0, l1, l2, l3, l4] st h else zrun zP sv C 122 20 [l0, l1, l2, l3, l4] st h := (zx_ic rfl rfl).trans zc1_if
theorem zs_122_14 : zrun zP sv C 122 14 [l0, .val (.ref a), l2, l3, l4] st h = zrun zP sv C 122 15 [l0, .val (.ref a), l2, l3, l4] (.ref a :: st) h := zx_go rfl rfl
theorem zs_122_15 : zrun zP sv C 122 15 [l0, l1, .val (.int x), l3, l4] st h = zrun zP sv C 122 16 [l0, l1, .val (.int x), l3, l4] (.int x :: st) h := zx_go rfl rfl
theorem zs_122_16 : zrun zP sv C 122 16 [l0, l1, l2, l3, l4] [v1, .ref b] h = zrc (h.1 b) 6 (zbk (C 185 [.ref b, v1] h) (fun v h' => zrun zP sv C 122 19 [l0, l1, l2, l3, l4] (v.toList ++ []) h') (fun E h' => some (.inr E, h'))) := zx_cv (x0 := 6) rfl rfl rfl rfl rfl ⟨Nat.le_of_ble_eq_true rfl, rfl⟩ (fun _ _ => rfl)
theorem zs_122_19 : zrun zP sv C 122 19 [l0, l1, l2, l3, l4] [.int x] h = some (.inl (some (.int x)), h) := zx_end rfl rfl
theorem zs_122_20 : zrun zP sv C 122 20 [l0, l1, l2, l3, .val (.int x)] st h = zrun zP sv C 122 22 [l0, l1, l2, l3, .val (.int x)] (.int x :: st) h := zx_go rfl rfl
theorem zs_122_22 : zrun zP sv C 122 22 [l0, l1, l2, l3, l4] st h = zrun zP sv C 122 24 [l0, l1, l2, l3, l4] (.int (nI 118) :: st) h := zx_go rfl rfl
theorem zs_122_24 : zrun zP sv C 122 24 [l0, l1, l2, l3, l4] (.int y :: .int x :: st) h = if x = y then zrun zP sv C 122 27 [l0, l1, l2, l3, l4] st h else zrun zP sv C 122 40 [l0, l1, l2, l3, l4] st h := (zx_ic rfl rfl).trans zc1_if
theorem zs_122_27 : zrun zP sv C 122 27 [l0, l1, l2, .val (.ref a), l4] st h = zrun zP sv C 122 28 [l0, l1, l2, .val (.ref a), l4] (.ref a :: st) h := zx_go rfl rfl
theorem zs_122_28 : zrun zP sv C 122 28 [l0, .val (.ref a), l2, l3, l4] st h = zrun zP sv C 122 29 [l0, .val (.ref a), l2, l3, l4] (.ref a :: st) h := zx_go rfl rfl
theorem zs_122_29 : zrun zP sv C 122 29 [l0, l1, .val (.int x), l3, l4] st h = zrun zP sv C 122 30 [l0, l1, .val (.int x), l3, l4] (.int x :: st) h := zx_go rfl rfl
theorem zs_122_30 : zrun zP sv C 122 30 [l0, l1, l2, l3, l4] [v1, .ref b, r0] h = zrc (h.1 b) 6 (zbk (C 185 [.ref b, v1] h) (fun v h' => zrun zP sv C 122 33 [l0, l1, l2, l3, l4] (v.toList ++ [r0]) h') (fun E h' => some (.inr E, h'))) := zx_cv (x0 := 6) rfl rfl rfl rfl rfl ⟨Nat.le_of_ble_eq_true rfl, rfl⟩ (fun _ _ => rfl)
theorem zs_122_33 : zrun zP sv C 122 33 [l0, l1, l2, l3, l4] st h = zrun zP sv C 122 35 [l0, l1, l2, l3, l4] (.int (nI 97) :: st) h := zx_go rfl rfl
theorem zs_122_35 : zrun zP sv C 122 35 [l0, l1, l2, l3, l4] (.int y :: .int x :: st) h = zrun zP sv C 122 36 [l0, l1, l2, l3, l4] (.int (x - y) :: st) h := zx_go rfl rfl
theorem zs_122_36 : zrun zP sv C 122 36 [l0, l1, l2, l3, l4] [v1, .ref b] h = zrc (h.1 b) 4 (zbk (C 165 [.ref b, v1] h) (fun v h' => zrun zP sv C 122 39 [l0, l1, l2, l3, l4] (v.toList ++ []) h') (fun E h' => some (.inr E, h'))) := zx_cv (x0 := 4) rfl rfl rfl rfl rfl ⟨Nat.le_of_ble_eq_true rfl, rfl⟩ (fun _ _ => rfl)
theorem zs_122_39 : zrun zP sv C 122 39 [l0, l1, l2, l3, l4] [.int x] h = some (.inl (some (.int x)), h) := zx_end rfl rfl
theorem zs_122_40 : zrun zP sv C 122 40 [l0, l1, l2, l3, .val (.int x)] st h = zrun zP sv C 122 42 [l0, l1, l2, l3, .val (.int x)] (.int x :: st) h := zx_go rfl rfl
theorem zs_122_42 : zrun zP sv C 122 42 [.val (.ref a), l1, l2, l3, l4] st h = zrun zP sv C 122 43 [.val (.ref a), l1, l2, l3, l4] (.ref a :: st) h := zx_go rfl rfl
theorem zs_122_43 : zrun zP sv C 122 43 [l0, l1, l2, l3, l4] (.ref a :: st) h = zfld (h.1 a) 10 0 (fun v => zrun zP sv C 122 46 [l0, l1, l2, l3, l4] (v :: st) h) := zx_getf rfl rfl
theorem zs_122_46 : zrun zP sv C 122 46 [l0, .val (.ref a), l2, l3, l4] st h = zrun zP sv C 122 47 [l0, .val (.ref a), l2, l3, l4] (.ref a :: st) h := zx_go rfl rfl
theorem zs_122_47 : zrun zP sv C 122 47 [l0, l1, .val (.int x), l3, l4] st h = zrun zP sv C 122 48 [l0, l1, .val (.int x), l3, l4] (.int x :: st) h := zx_go rfl rfl
theorem zs_122_48 : zrun zP sv C 122 48 [l0, l1, l2, l3, l4] [v1, .ref b, r0, r1] h = zrc (h.1 b) 6 (zbk (C 186 [.ref b, v1] h) (fun v h' => zrun zP sv C 122 51 [l0, l1, l2, l3, l4] (v.toList ++ [r0, r1]) h') (fun E h' => some (.inr E, h'))) := zx_cv (x0 := 6) rfl rfl rfl rfl rfl ⟨Nat.le_of_ble_eq_true rfl, rfl⟩ (fun _ _ => rfl)
theorem zs_122_51 : zrun zP sv C 122 51 [l0, l1, l2, l3, l4] [v1, .ref b, r0] h = zrc (h.1 b) 4 (zbk (C 165 [.ref b, v1] h) (fun v h' => zrun zP sv C 122 54 [l0, l1, l2, l3, l4] (v.toList ++ [r0]) h') (fun E h' => some (.inr E, h'))) := zx_cv (x0 := 4) rfl rfl rfl rfl rfl ⟨Nat.le_of_ble_eq_true rfl, rfl⟩ (fun _ _ => rfl)
theorem zs_122_54 : zrun zP sv C 122 54 [.val (.ref a), l1, l2, l3, l4] st h = zrun zP sv C 122 55 [.val (.ref a), l1, l2, l3, l4] (.ref a :: st) h := zx_go rfl rfl
theorem zs_122_55 : zrun zP sv C 122 55 [l0, l1, l2, l3, l4] (.ref a :: st) h = zfld (h.1 a) 10 0 (fun v => zrun zP sv C 122 58 [l0, l1, l2, l3, l4] (v :: st) h) := zx_getf rfl rfl
theorem zs_122_58 : zrun zP sv C 122 58 [l0, .val (.ref a), l2, l3, l4] st h = zrun zP sv C 122 59 [l0, .val (.ref a), l2, l3, l4] (.ref a :: st) h := zx_go rfl rfl
theorem zs_122_59 : zrun zP sv C 122 59 [l0, l1, .val (.int x), l3, l4] st h = zrun zP sv C 122 60 [l0, l1, .val (.int x), l3, l4] (.int x :: st) h := zx_go rfl rfl
theorem zs_122_60 : zrun zP sv C 122 60 [l0, l1, l2, l3, l4] [v1, .ref b, r0, r1, r2] h = zrc (h.1 b) 6 (zbk (C 187 [.ref b, v1] h) (fun v h' => zrun zP sv C 122 63 [l0, l1, l2, l3, l4] (v.toList ++ [r0, r1, r2]) h') (fun E h' => some (.inr E, h'))) := zx_cv (x0 := 6) rfl rfl rfl rfl rfl ⟨Nat.le_of_ble_eq_true rfl, rfl⟩ (fun _ _ => rfl)
theorem zs_122_63 : zrun zP sv C 122 63 [l0, l1, l2, l3, l4] [v1, .ref b, r0, r1] h = zrc (h.1 b) 4 (zbk (C 165 [.ref b, v1] h) (fun v h' => zrun zP sv C 122 66 [l0, l1, l2, l3, l4] (v.toList ++ [r0, r1]) h') (fun E h' => some (.inr E, h'))) := zx_cv (x0 := 4) rfl rfl rfl rfl rfl ⟨Nat.le_of_ble_eq_true rfl, rfl⟩ (fun _ _ => rfl)
theorem zs_122_66 : zrun zP sv C 122 66 [l0, l1, l2, l3, l4] [v2, v1, v0] h = zbk (C 84 [v0, v1, v2] h) (fun v h' => zrun zP sv C 122 69 [l0, l1, l2, l3, l4] (v.toList ++ []) h') (fun E h' => some (.inr E, h')) := zx_cs rfl rfl rfl rfl ⟨Nat.le_of_ble_eq_true rfl, rfl⟩ (fun _ _ => rfl)
theorem zs_122_69 : zrun zP sv C 122 69 [l0, l1, l2, l3, l4] [.int x] h = some (.inl (some (.int x)), h) := zx_end rfl rfl
theorem zs_123_0 : zrun zP sv C 123 0 [l0, l1, l2, l3, l4] st h = zrun zP sv C 123 1 [l0, l1, l2, l3, l4] (.int 0 :: st) h := zx_go rfl rfl
theorem zs_123_1 (hs : znw l4 = true) : zrun zP sv C 123 1 [l0, l1, l2, l3, l4] (.int x :: st) h = zrun zP sv C 123 3 [l0, l1, l2, l3, .val (.int x)] st h := zx_st hs rfl rfl rfl rfl rfl rfl
theorem zs_123_3 : zrun zP sv C 123 3 [l0, l1, l2, l3, .val (.int x)] st h = zrun zP sv C 123 5 [l0, l1, l2, l3, .val (.int x)] (.int x :: st) h := zx_go rfl rfl
theorem zs_123_5 : zrun zP sv C 123 5 [l0, .val (.ref a), l2, l3, l4] st h = zrun zP sv C 123 6 [l0, .val (.ref a), l2, l3, l4] (.ref a :: st) h := zx_go rfl rfl
theorem zs_123_6 : zrun zP sv C 123 6 [l0, l1, l2, l3, l4] [.ref b, r0] h = zrc (h.1 b) 6 (zbk (C 182 [.ref b] h) (fun v h' => zrun zP sv C 123 9 [l0, l1, l2, l3, l4] (v.toList ++ [r0]) h') (fun E h' => some (.inr E, h'))) := zx_cv (x0 := 6) rfl rfl rfl rfl rfl ⟨Nat.le_of_ble_eq_true rfl, rfl⟩ (fun _ _ => rfl)
theorem zs_123_9 : zrun zP sv C 123 9 [l0, l1, l2, l3, l4] (.int y :: .int x :: st) h = if x < y then zrun zP sv C 123 12 [l0, l1, l2, l3, l4] st h else zrun zP sv C 123 52 [l0, l1, l2, l3, l4] st h := (zx_ic rfl rfl).trans zc3_if
theorem zs_123_12 : zrun zP sv C 123 12 [.val (.ref a), l1, l2, l3, l4] st h = zrun zP sv C 123 13 [.val (.ref a), l1, l2, l3, l4] (.ref a :: st) h := zx_go rfl rfl
theorem zs_123_13 : zrun zP sv C 123 13 [l0, l1, l2, l3, l4] (.ref a :: st) h = zfld (h.1 a) 10 1 (fun v => zrun zP sv C 123 16 [l0, l1, l2, l3, l4] (v :: st) h) := zx_getf rfl rfl
theorem zs_123_16 : zrun zP sv C 123 16 [l0, l1, l2, l3, .val (.int x)] st h = zrun zP sv C 123 18 [l0, l1, l2, l3, .val (.int x)] (.int x :: st) h := zx_go rfl rfl
theorem zs_123_18 : zrun zP sv C 123 18 [.val (.ref a), l1, l2, l3, l4] st h = zrun zP sv C 123 19 [.val (.ref a), l1, l2, l3, l4] (.ref a :: st) h := zx_go rfl rfl
theorem zs_123_19 : zrun zP sv C 123 19 [l0, .val (.ref a), l2, l3, l4] st h = zrun zP sv C 123 20 [l0, .val (.ref a), l2, l3, l4] (.ref a :: st) h := zx_go rfl rfl
theorem zs_123_20 : zrun zP sv C 123 20 [l0, l1, l2, l3, .val (.int x)] st h = zrun zP sv C 123 22 [l0, l1, l2, l3, .val (.int x)] (.int x :: st) h := zx_go rfl rfl
theorem zs_123_22 : zrun zP sv C 123 22 [l0, l1, .val (.int x), l3, l4] st h = zrun zP sv C 123 23 [l0, l1, .val (.int x), l3, l4] (.int x :: st) h := zx_go rfl rfl
theorem zs_123_23 : zrun zP sv C 123 23 [l0, l1, l2, l3, l4] [v3, v2, v1, .ref b, r0, r1] h = zrc (h.1 b) 10 (zbk (C 124 [.ref b, v1, v2, v3] h) (fun v h' => zrun zP sv C 123 26 [l0, l1, l2, l3, l4] (v.toList ++ [r0, r1]) h') (fun E h' => some (.inr E, h'))) := zx_cv (x0 := 10) rfl rfl rfl rfl rfl ⟨Nat.le_of_ble_eq_true rfl, rfl⟩ (fun _ _ => rfl)
theorem zs_123_26 : zrun zP sv C 123 26 [l0, l1, l2, l3, l4] [v2, v1, .ref b] h = zrc (h.1 b) 4 (zbk (C 166 [.ref b, v1, v2] h) (fun v h' => zrun zP sv C 123 29 [l0, l1, l2, l3, l4] (v.toList ++ []) h') (fun E h' => some (.inr E, h'))) := zx_cv (x0 := 4) rfl rfl rfl rfl rfl ⟨Nat.le_of_ble_eq_true rfl, rfl⟩ (fun _ _ => rfl)
theorem zs_123_29 : zrun zP sv C 123 29 [.val (.ref a), l1, l2, l3, l4] st h = zrun zP sv C 123 30 [.val (.ref a), l1, l2, l3, l4] (.ref a :: st) h := zx_go rfl rfl
theorem zs_123_30 : zrun zP sv C 123 30 [l0, l1, l2, l3, l4] (.ref a :: st) h = zfld (h.1 a) 10 0 (fun v => zrun zP sv C 123 33 [l0, l1, l2, l3, l4] (v :: st) h) := zx_getf rfl rfl
theorem zs_123_33 : zrun zP sv C 123 33 [l0, l1, l2, l3, .val (.int x)] st h = zrun zP sv C 123 35 [l0, l1, l2, l3, .val (.int x)] (.int x :: st) h := zx_go rfl rfl
theorem zs_123_35 : zrun zP sv C 123 35 [.val (.ref a), l1, l2, l3, l4] st h = zrun zP sv C 123 36 [.val (.ref a), l1, l2, l3, l4] (.ref a :: st) h := zx_go rfl rfl
theorem zs_123_36 : zrun zP sv C 123 36 [l0, .val (.ref a), l2, l3, l4] st h = zrun zP sv C 123 37 [l0, .val (.ref a), l2, l3, l4] (.ref a :: st) h := zx_go rfl rfl
theorem zs_123_37 : zrun zP sv C 123 37 [l0, l1, l2, l3, .val (.int x)] st h = zrun zP sv C 123 39 [l0, l1, l2, l3, .val (.int x)] (.int x :: st) h := zx_go rfl rfl
theorem zs_123_39 : zrun zP sv C 123 39 [l0, l1, l2, .val (.ref a), l4] st h = zrun zP sv C 123 40 [l0, l1, l2, .val (.ref a), l4] (.ref a :: st) h := zx_go rfl rfl
theorem zs_123_40 : zrun zP sv C 123 40 [l0, l1, l2, l3, l4] [v3, v2, v1, .ref b, r0, r1] h = zrc (h.1 b) 10 (zbk (C 122 [.ref b, v1, v2, v3] h) (fun v h' => zrun zP sv C 123 43 [l0, l1, l2, l3, l4] (v.toList ++ [r0, r1]) h') (fun E h' => some (.inr E, h'))) := zx_cv (x0 := 10) rfl rfl rfl rfl rfl ⟨Nat.le_of_ble_eq_true rfl, rfl⟩ (fun _ _ => rfl)
theorem zs_123_43 : zrun zP sv C 123 43 [l0, l1, l2, l3, l4] [v2, v1, .ref b] h = zrc (h.1 b) 4 (zbk (C 166 [.ref b, v1, v2] h) (fun v h' => zrun zP sv C 123 46 [l0, l1, l2, l3, l4] (v.toList ++ []) h') (fun E h' => some (.inr E, h'))) := zx_cv (x0 := 4) rfl rfl rfl rfl rfl ⟨Nat.le_of_ble_eq_true rfl, rfl⟩ (fun _ _ => rfl)
theorem zs_123_46 : zrun zP sv C 123 46 [l0, l1, l2, l3, .val (.int x)] st h = zrun zP sv C 123 49 [l0, l1, l2, l3, .val (.int (x + (nI 1)))] st h := zx_ii rfl rfl rfl rfl rfl
theorem zs_123_49 : zrun zP sv C 123 49 [l0, l1, l2, l3, l4] st h = zrun zP sv C 123 3 [l0, l1, l2, l3, l4] st h := zx_go rfl rfl
theorem zs_123_52 : zrun zP sv C 123 52 [.val (.ref a), l1, l2, l3, l4] st h = zrun zP sv C 123 53 [.val (.ref a), l1, l2, l3, l4] (.ref a :: st) h := zx_go rfl rfl
theorem zs_123_53 : zrun zP sv C 123 53 [l0, l1, l2, l3, l4] (.ref a :: st) h = zfld (h.1 a) 10 1 (fun v => zrun zP sv C 123 56 [l0, l1, l2, l3, l4] (v :: st) h) := zx_getf rfl rfl
theorem zs_123_56 : zrun zP sv C 123 56 [l0, .val (.ref a), l2, l3, l4] st h = zrun zP sv C 123 57 [l0, .val (.ref a), l2, l3, l4] (.ref a :: st) h := zx_go rfl rfl
theorem zs_123_57 : zrun zP sv C 123 57 [l0, l1, l2, l3, l4] [.ref b, r0] h = zrc (h.1 b) 6 (zbk (C 183 [.ref b] h) (fun v h' => zrun zP sv C 123 60 [l0, l1, l2, l3, l4] (v.toList ++ [r0]) h') (fun E h' => some (.inr E, h'))) := zx_cv (x0 := 6) rfl rfl rfl rfl rfl ⟨Nat.le_of_ble_eq_true rfl, rfl⟩ (fun _ _ => rfl)
theorem zs_123_60 : zrun zP sv C 123 60 [l0, l1, l2, l3, l4] [v1, .ref b] h = zrc (h.1 b) 4 (zbk (C 165 [.ref b, v1] h) (fun v h' => zrun zP sv C 123 63 [l0, l1, l2, l3, l4] (v.toList ++ []) h') (fun E h' => some (.inr E, h'))) := zx_cv (x0 := 4) rfl rfl rfl rfl rfl ⟨Nat.le_of_ble_eq_true rfl, rfl⟩ (fun _ _ => rfl)
theorem zs_123_63 : zrun zP sv C 123 63 [l0, l1, l2, l3, l4] [.int x] h = some (.inl (some (.int x)), h) := zx_end rfl rfl
theorem zs_124_0 : zrun zP sv C 124 0 [l0, .val (.ref a), l2, l3, l4, l5, l6] st h = zrun zP sv C 124 1 [l0, .val (.ref a), l2, l3, l4, l5, l6] (.ref a :: st) h := zx_go rfl rfl
theorem zs_124_1 : zrun zP sv C 124 1 [l0, l1, .val (.int x), l3, l4, l5, l6] st h = zrun zP sv C 124 2 [l0, l1, .val (.int x), l3, l4, l5, l6] (.int x :: st) h := zx_go rfl rfl
theorem zs_124_2 : zrun zP sv C 124 2 [l0, l1, l2, l3, l4, l5, l6] [v1, .ref b] h = zrc (h.1 b) 6 (zbk (C 184 [.ref b, v1] h) (fun v h' => zrun zP sv C 124 5 [l0, l1, l2, l3, l4, l5, l6] (v.toList ++ []) h') (fun E h' => some (.inr E, h'))) := zx_cv (x0 := 6) rfl rfl rfl rfl rfl ⟨Nat.le_of_ble_eq_true rfl, rfl⟩ (fun _ _ => rfl)
theorem zs_124_5 (hs : znw l4 = true) : zrun zP sv C 124 5 [l0, l1, l2, l3, l4, l5, l6] (.int x :: st) h = zrun zP sv C 124 7 [l0, l1, l2, l3, .val (.int x), l5, l6] st h := zx_st hs rfl rfl rfl rfl rfl rfl
theorem zs_124_7 : zrun zP sv C 124 7 [l0, .val (.ref a), l2, l3, l4, l5, l6] st h = zrun zP sv C 124 8 [l0, .val (.ref a), l2, l3, l4, l5, l6] (.ref a :: st) h := zx_go rfl rfl
theorem zs_124_8 : zrun zP sv C 124 8 [l0, l1, .val (.int x), l3, l4, l5, l6] st h = zrun zP sv C 124 9 [l0, l1, .val (.int x), l3, l4, l5, l6] (.int x :: st) h := zx_go rfl rfl
theorem zs_124_9 : zrun zP sv C 124 9 [l0, l1, l2, l3, l4, l5, l6] [v1, .ref b] h = zrc (h.1 b) 6 (zbk (C 186 [.ref b, v1] h) (fun v h' => zrun zP sv C 124 12 [l0, l1, l2, l3, l4, l5, l6] (v.toList ++ []) h') (fun E h' => some (.inr E, h'))) := zx_cv (x0 := 6) rfl rfl rfl rfl rfl ⟨Nat.le_of_ble_eq_true rfl, rfl⟩ (fun _ _ => rfl)
theorem zs_124_12 (hs : znw l5 = true) : zrun zP sv C 124 12 [l0, l1, l2, l3, l4, l5, l6] (.int x :: st) h = zrun zP sv C 124 14 [l0, l1, l2, l3, l4, .val (.int x), l6] st h := zx_st hs rfl rfl rfl rfl rfl rfl
theorem zs_124_14 : zrun zP sv C 124 14 [l0, .val (.ref a), l2, l3, l4, l5, l6] st h = zrun zP sv C 124 15 [l0, .val (.ref a), l2, l3, l4, l5, l6] (.ref a :: st) h := zx_go rfl rfl
theorem zs_124_15 : zrun zP sv C 124 15 [l0, l1, .val (.int x), l3, l4, l5, l6] st h = zrun zP sv C 124 16 [l0, l1, .val (.int x), l3, l4, l5, l6] (.int x :: st) h := zx_go rfl rfl
theorem zs_124_16 : zrun zP sv C 124 16 [l0, l1, l2, l3, l4, l5, l6] [v1, .ref b] h = zrc (h.1 b) 6 (zbk (C 187 [.ref b, v1] h) (fun v h' => zrun zP sv C 124 19 [l0, l1, l2, l3, l4, l5, l6] (v.toList ++ []) h') (fun E h' => some (.inr E, h'))) := zx_cv (x0 := 6) rfl rfl rfl rfl rfl ⟨Nat.le_of_ble_eq_true rfl, rfl⟩ (fun _ _ => rfl)
theorem zs_124_19 (hs : znw l6 = true) : zrun zP sv C 124 19 [l0, l1, l2, l3, l4, l5, l6] (.int x :: st) h = zrun zP sv C 124 21 [l0, l1, l2, l3, l4, l5, .val (.int x)] st h := zx_st hs rfl rfl rfl rfl rfl rfl
theorem zs_124_21 : zrun zP sv C 124 21 [l0, l1, l2, l3, .val (.int x), l5, l6] st h = zrun zP sv C 124 23 [l0, l1, l2, l3, .val (.int x), l5, l6] (.int x :: st) h := zx_go rfl rfl
theorem zs_124_23 : zrun zP sv C 124 23 [l0, l1, l2, l3, l4, l5, l6] st h = zrun zP sv C 124 25 [l0, l1, l2, l3, l4, l5, l6] (.int (nI 42) :: st) h := zx_go rfl rfl
theorem zs_124_25 : zrun zP sv C 124 25 [l0, l1, l2, l3, l4, l5, l6] (.int y :: .int x :: st) h = if x = y then zrun zP sv C 124 28 [l0, l1, l2, l3, l4, l5, l6] st h else zrun zP sv C 124 68 [l0, l1, l2, l3, l4, l5, l6] st h := (zx_ic rfl rfl).trans zc1_if
theorem zs_124_28 : zrun zP sv C 124 28 [.val (.ref a), l1, l2, l3, l4, l5, l6] st h = zrun zP sv C 124 29 [.val (.ref a), l1, l2, l3, l4, l5, l6] (.ref a :: st) h := zx_go rfl rfl
theorem zs_124_29 : zrun zP sv C 124 29 [l0, l1, l2, l3, l4, l5, l6] (.ref a :: st) h = zfld (h.1 a) 10 1 (fun v => zrun zP sv C 124 32 [l0, l1, l2, l3, l4, l5, l6] (v :: st) h) := zx_getf rfl rfl
theorem zs_124_32 : zrun zP sv C 124 32 [l0, l1, l2, l3, l4, .val (.int x), l6] st h = zrun zP sv C 124 34 [l0, l1, l2, l3, l4, .val (.int x), l6] (.int x :: st) h := zx_go rfl rfl
theorem zs_124_34 : zrun zP sv C 124 34 [l0, l1, l2, l3, l4, l5, l6] [v1, .ref b] h = zrc (h.1 b) 4 (zbk (C 165 [.ref b, v1] h) (fun v h' => zrun zP sv C 124 37 [l0, l1, l2, l3, l4, l5, l6] (v.toList ++ []) h') (fun E h' => some (.inr E, h'))) := zx_cv (x0 := 4) rfl rfl rfl rfl rfl ⟨Nat.le_of_ble_eq_true rfl, rfl⟩ (fun _ _ => rfl)
theorem zs_124_37 : zrun zP sv C 124 37 [.val (.ref a), l1, l2, l3, l4, l5, l6] st h = zrun zP sv C 124 38 [.val (.ref a), l1, l2, l3, l4, l5, l6] (.ref a :: st) h := zx_go rfl rfl
theorem zs_124_38 : zrun zP sv C 124 38 [l0, l1, l2, l3, l4, l5, l6] (.ref a :: st) h = zfld (h.1 a) 10 0 (fun v => zrun zP sv C 124 41 [l0, l1, l2, l3, l4, l5, l6] (v :: st) h) := zx_getf rfl rfl
theorem zs_124_41 : zrun zP sv C 124 41 [l0, l1, l2, l3, l4, l5, .val (.int x)] st h = zrun zP sv C 124 43 [l0, l1, l2, l3, l4, l5, .val (.int x)] (.int x :: st) h := zx_go rfl rfl
theorem zs_124_43 : zrun zP sv C 124 43 [l0, l1, l2, l3, l4, l5, l6] [v1, .ref b, r0] h = zrc (h.1 b) 4 (zbk (C 165 [.ref b, v1] h) (fun v h' => zrun zP sv C 124 46 [l0, l1, l2, l3, l4, l5, l6] (v.toList ++ [r0]) h') (fun E h' => some (.inr E, h'))) := zx_cv (x0 := 4) rfl rfl rfl rfl rfl ⟨Nat.le_of_ble_eq_true rfl, rfl⟩ (fun _ _ => rfl)
theorem zs_124_46 : zrun zP sv C 124 46 [l0, l1, l2, l3, l4, l5, l6] (.int y :: .int x :: st) h = zrun zP sv C 124 47 [l0, l1, l2, l3, l4, l5, l6] (.int (x * y) :: st) h := zx_go rfl rfl
theorem zs_124_47 : zrun zP sv C 124 47 [.val (.ref a), l1, l2, l3, l4, l5, l6] st h = zrun zP sv C 124 48 [.val (.ref a), l1, l2, l3, l4, l5, l6] (.ref a :: st) h := zx_go rfl rfl
theorem zs_124_48 : zrun zP sv C 124 48 [l0, l1, l2, l3, l4, l5, l6] (.ref a :: st) h = zfld (h.1 a) 10 0 (fun v => zrun zP sv C 124 51 [l0, l1, l2, l3, l4, l5, l6] (v :: st) h) := zx_getf rfl rfl
theorem zs_124_51 : zrun zP sv C 124 51 [l0, l1, l2, l3, l4, .val (.int x), l6] st h = zrun zP sv C 124 53 [l0, l1, l2, l3, l4, .val (.int x), l6] (.int x :: st) h := zx_go rfl rfl
theorem zs_124_53 : zrun zP sv C 124 53 [l0, l1, l2, l3, l4, l5, l6] [v1, .ref b, r0] h = zrc (h.1 b) 4 (zbk (C 165 [.ref b, v1] h) (fun v h' => zrun zP sv C 124 56 [l0, l1, l2, l3, l4, l5, l6] (v.toList ++ [r0]) h') (fun E h' => some (.inr E, h'))) := zx_cv (x0 := 4) rfl rfl rfl rfl rfl ⟨Nat.le_of_ble_eq_true rfl, rfl⟩ (fun _ _ => rfl)
theorem zs_124_56 : zrun zP sv C 124 56 [.val (.ref a), l1, l2, l3, l4, l5, l6] st h = zrun zP sv C 124 57 [.val (.ref a), l1, l2, l3, l4, l5, l6] (.ref a :: st) h := zx_go rfl rfl
theorem zs_124_57 : zrun zP sv C 124 57 [l0, l1, l2, l3, l4, l5, l6] (.ref a :: st) h = zfld (h.1 a) 10 1 (fun v => zrun zP sv C 124 60 [l0, l1, l2, l3, l4, l5, l6] (v :: st) h) := zx_getf rfl rfl
theorem zs_124_60 : zrun zP sv C 124 60 [l0, l1, l2, l3, l4, l5, .val (.int x)] st h = zrun zP sv C 124 62 [l0, l1, l2, l3, l4, l5, .val (.int x)] (.int x :: st) h := zx_go rfl rfl
theorem zs_124_62 : zrun zP sv C 124 62 [l0, l1, l2, l3, l4, l5, l6] [v1, .ref b, r0, r1] h = zrc (h.1 b) 4 (zbk (C 165 [.ref b, v1] h) (fun v h' => zrun zP sv C 124 65 [l0, l1, l2, l3, l4, l5, l6] (v.toList ++ [r0, r1]) h') (fun E h' => some (.inr E, h'))) := zx_cv (x0 := 4) rfl rfl rfl rfl rfl ⟨Nat.le_of_ble_eq_true rfl, rfl⟩ (fun _ _ => rfl)
theorem zs_124_65 : zrun zP sv C 124 65 [l0, l1, l2, l3, l4, l5, l6] (.int y :: .int x :: st) h = zrun zP sv C 124 66 [l0, l1, l2, l3, l4, l5, l6] (.int (x * y) :: st) h := zx_go rfl rfl
theorem zs_124_66 : zrun zP sv C 124 66 [l0, l1, l2, l3, l4, l5, l6] (.int y :: .int x :: st) h = zrun zP sv C 124 67 [l0, l1, l2, l3, l4, l5, l6] (.int (x + y) :: st) h := zx_go rfl rfl
theorem zs_124_67 : zrun zP sv C 124 67 [l0, l1, l2, l3, l4, l5, l6] [.int x] h = some (.inl (some (.int x)), h) := zx_end rfl rfl
theorem zs_124_68 : zrun zP sv C 124 68 [l0, l1, l2, l3, .val (.int x), l5, l6] st h = zrun zP sv C 124 70 [l0, l1, l2, l3, .val (.int x), l5, l6] (.int x :: st) h := zx_go rfl rfl
theorem zs_124_70 : zrun zP sv C 124 70 [l0, l1, l2, l3, l4, l5, l6] st h = zrun zP sv C 124 72 [l0, l1, l2, l3, l4, l5, l6] (.int (nI 99) :: st) h := zx_go rfl rfl
theorem zs_124_72 : zrun zP sv C 124 72 [l0, l1, l2, l3, l4, l5, l6] (.int y :: .int x :: st) h = if x = y then zrun zP sv C 124 82 [l0, l1, l2, l3, l4, l5, l6] st h else zrun zP sv C 124 75 [l0, l1, l2, l3, l4, l5, l6] st h := (zx_ic rfl rfl).trans zc0_if
theorem zs_124_75 : zrun zP sv C 124 75 [l0, l1, l2, l3, .val (.int x), l5, l6] st h = zrun zP sv C 124 77 [l0, l1, l2, l3, .val (.int x), l5, l6] (.int x :: st) h := zx_go rfl rfl
theorem zs_124_77 : zrun zP sv C 124 77 [l0, l1, l2, l3, l4, l5, l6] st h = zrun zP sv C 124 79 [l0, l1, l2, l3, l4, l5, l6] (.int (nI 118) :: st) h := zx_go rfl rfl
theorem zs_124_79 : zrun zP sv C 124 79 [l0, l1, l2, l3, l4, l5, l6] (.int y :: .int x :: st) h = if x = y then zrun zP sv C 124 82 [l0, l1, l2, l3, l4, l5, l6] st h else zrun zP sv C 124 97 [l0, l1, l2, l3, l4, l5, l6] st h := (zx_ic rfl rfl).trans zc1_if
theorem zs_124_82 : zrun zP sv C 124 82 [l0, .val (.ref a), l2, l3, l4, l5, l6] st h = zrun zP sv C 124 83 [l0, .val (.ref a), l2, l3, l4, l5, l6] (.ref a :: st) h := zx_go rfl rfl
theorem zs_124_83 : zrun zP sv C 124 83 [l0, l1, .val (.int x), l3, l4, l5, l6] st h = zrun zP sv C 124 84 [l0, l1, .val (.int x), l3, l4, l5, l6] (.int x :: st) h := zx_go rfl rfl
theorem zs_124_84 : zrun zP sv C 124 84 [l0, l1, l2, .val (.int x), l4, l5, l6] st h = zrun zP sv C 124 85 [l0, l1, l2, .val (.int x), l4, l5, l6] (.int x :: st) h := zx_go rfl rfl
theorem zs_124_85 : zrun zP sv C 124 85 [l0, l1, l2, l3, l4, l5, l6] [v2, v1, .ref b] h = zrc (h.1 b) 6 (zbk (C 188 [.ref b, v1, v2] h) (fun v h' => zrun zP sv C 124 88 [l0, l1, l2, l3, l4, l5, l6] (v.toList ++ []) h') (fun E h' => some (.inr E, h'))) := zx_cv (x0 := 6) rfl rfl rfl rfl rfl ⟨Nat.le_of_ble_eq_true rfl, rfl⟩ (fun _ _ => rfl)
theorem zs_124_88 : zrun zP sv C 124 88 [l0, l1, l2, l3, l4, l5, l6] (.int x :: st) h = if x = 0 then zrun zP sv C 124 95 [l0, l1, l2, l3, l4, l5, l6] st h else zrun zP sv C 124 91 [l0, l1, l2, l3, l4, l5, l6] st h := (zx_if rfl rfl).trans zc0_if
theorem zs_124_91 : zrun zP sv C 124 91 [l0, l1, l2, l3, l4, l5, l6] st h = zrun zP sv C 124 92 [l0, l1, l2, l3, l4, l5, l6] (.int (nI 1) :: st) h := zx_go rfl rfl
theorem zs_124_92 : zrun zP sv C 124 92 [l0, l1, l2, l3, l4, l5, l6] st h = zrun zP sv C 124 96 [l0, l1, l2, l3, l4, l5, l6] st h := zx_go rfl rfl
theorem zs_124_95 : zrun zP sv C 124 95 [l0, l1, l2, l3, l4, l5, l6] st h = zrun zP sv C 124 96 [l0, l1, l2, l3, l4, l5, l6] (.int 0 :: st) h := zx_go rfl rfl
theorem zs_124_96 : zrun zP sv C 124 96 [l0, l1, l2, l3, l4, l5, l6] [.int x] h = some (.inl (some (.int x)), h) := zx_end rfl rfl
theorem zs_124_97 : zrun zP sv C 124 97 [l0, l1, l2, l3, .val (.int x), l5, l6] st h = zrun zP sv C 124 99 [l0, l1, l2, l3, .val (.int x), l5, l6] (.int x :: st) h := zx_go rfl rfl
theorem zs_124_99 : zrun zP sv C 124 99 [.val (.ref a), l1, l2, l3, l4, l5, l6] st h = zrun zP sv C 124 100 [.val (.ref a), l1, l2, l3, l4, l5, l6] (.ref a :: st) h := zx_go rfl rfl
theorem zs_124_100 : zrun zP sv C 124 100 [l0, l1, l2, l3, l4, l5, l6] (.ref a :: st) h = zfld (h.1 a) 10 1 (fun v => zrun zP sv C 124 103 [l0, l1, l2, l3, l4, l5, l6] (v :: st) h) := zx_getf rfl rfl
theorem zs_124_103 : zrun zP sv C 124 103 [l0, l1, l2, l3, l4, .val (.int x), l6] st h = zrun zP sv C 124 105 [l0, l1, l2, l3, l4, .val (.int x), l6] (.int x :: st) h := zx_go rfl rfl
theorem zs_124_105 : zrun zP sv C 124 105 [l0, l1, l2, l3, l4, l5, l6] [v1, .ref b, r0] h = zrc (h.1 b) 4 (zbk (C 165 [.ref b, v1] h) (fun v h' => zrun zP sv C 124 108 [l0, l1, l2, l3, l4, l5, l6] (v.toList ++ [r0]) h') (fun E h' => some (.inr E, h'))) := zx_cv (x0 := 4) rfl rfl rfl rfl rfl ⟨Nat.le_of_ble_eq_true rfl, rfl⟩ (fun _ _ => rfl)
theorem zs_124_108 : zrun zP sv C 124 108 [.val (.ref a), l1, l2, l3, l4, l5, l6] st h = zrun zP sv C 124 109 [.val (.ref a), l1, l2, l3, l4, l5, l6] (.ref a :: st) h := zx_go rfl rfl
theorem zs_124_109 : zrun zP sv C 124 109 [l0, l1, l2, l3, l4, l5, l6] (.ref a :: st) h = zfld (h.1 a) 10 1 (fun v => zrun zP sv C 124 112 [l0, l1, l2, l3, l4, l5, l6] (v :: st) h) := zx_getf rfl rfl
theorem zs_124_112 : zrun zP sv C 124 112 [l0, l1, l2, l3, l4, l5, .val (.int x)] st h = zrun zP sv C 124 114 [l0, l1, l2, l3, l4, l5, .val (.int x)] (.int x :: st) h := zx_go rfl rfl
theorem zs_124_114 : zrun zP sv C 124 114 [l0, l1, l2, l3, l4, l5, l6] [v1, .ref b, r0, r1] h = zrc (h.1 b) 4 (zbk (C 165 [.ref b, v1] h) (fun v h' => zrun zP sv C 124 117 [l0, l1, l2, l3, l4, l5, l6] (v.toList ++ [r0, r1]) h') (fun E h' => some (.inr E, h'))) := zx_cv (x0 := 4) rfl rfl rfl rfl rfl ⟨Nat.le_of_ble_eq_true rfl, rfl⟩ (fun _ _ => rfl)
theorem zs_124_117 : zrun zP sv C 124 117 [l0, l1, l2, l3, l4, l5, l6] [v2, v1, v0] h = zbk (C 84 [v0, v1, v2] h) (fun v h' => zrun zP sv C 124 120 [l0, l1, l2, l3, l4, l5, l6] (v.toList ++ []) h') (fun E h' => some (.inr E, h')) := zx_cs rfl rfl rfl rfl ⟨Nat.le_of_ble_eq_true rfl, rfl⟩ (fun _ _ => rfl)
theorem zs_124_120 : zrun zP sv C 124 120 [l0, l1, l2, l3, l4, l5, l6] [.int x] h = some (.inl (some (.int x)), h) := zx_end rfl rfl
theorem zs_125_0 : zrun zP sv C 125 0 [l0, l1, l2] st h = zrun zP sv C 125 1 [l0, l1, l2] (.int 0 :: st) h := zx_go rfl rfl
theorem zs_125_1 (hs : znw l2 = true) : zrun zP sv C 125 1 [l0, l1, l2] (.int x :: st) h = zrun zP sv C 125 2 [l0, l1, .val (.int x)] st h := zx_st hs rfl rfl rfl rfl rfl rfl
theorem zs_125_2 : zrun zP sv C 125 2 [l0, l1, .val (.int x)] st h = zrun zP sv C 125 3 [l0, l1, .val (.int x)] (.int x :: st) h := zx_go rfl rfl
theorem zs_125_3 : zrun zP sv C 125 3 [l0, .val (.ref a), l2] st h = zrun zP sv C 125 4 [l0, .val (.ref a), l2] (.ref a :: st) h := zx_go rfl rfl
theorem zs_125_4 : zrun zP sv C 125 4 [l0, l1, l2] [.ref b, r0] h = zrc (h.1 b) 6 (zbk (C 182 [.ref b] h) (fun v h' => zrun zP sv C 125 7 [l0, l1, l2] (v.toList ++ [r0]) h') (fun E h' => some (.inr E, h'))) := zx_cv (x0 := 6) rfl rfl rfl rfl rfl ⟨Nat.le_of_ble_eq_true rfl, rfl⟩ (fun _ _ => rfl)
theorem zs_125_7 : zrun zP sv C 125 7 [l0, l1, l2] (.int y :: .int x :: st) h = if x < y then zrun zP sv C 125 10 [l0, l1, l2] st h else zrun zP sv C 125 30 [l0, l1, l2] st h := (zx_ic rfl rfl).trans zc3_if
theorem zs_125_10 : zrun zP sv C 125 10 [.val (.ref a), l1, l2] st h = zrun zP sv C 125 11 [.val (.ref a), l1, l2] (.ref a :: st) h := zx_go rfl rfl
theorem zs_125_11 : zrun zP sv C 125 11 [l0, l1, l2] (.ref a :: st) h = zfld (h.1 a) 10 2 (fun v => zrun zP sv C 125 14 [l0, l1, l2] (v :: st) h) := zx_getf rfl rfl
theorem zs_125_14 : zrun zP sv C 125 14 [l0, l1, .val (.int x)] st h = zrun zP sv C 125 15 [l0, l1, .val (.int x)] (.int x :: st) h := zx_go rfl rfl
theorem zs_125_15 : zrun zP sv C 125 15 [.val (.ref a), l1, l2] st h = zrun zP sv C 125 16 [.val (.ref a), l1, l2] (.ref a :: st) h := zx_go rfl rfl
theorem zs_125_16 : zrun zP sv C 125 16 [l0, .val (.ref a), l2] st h = zrun zP sv C 125 17 [l0, .val (.ref a), l2] (.ref a :: st) h := zx_go rfl rfl
theorem zs_125_17 : zrun zP sv C 125 17 [l0, l1, .val (.int x)] st h = zrun zP sv C 125 18 [l0, l1, .val (.int x)] (.int x :: st) h := zx_go rfl rfl
theorem zs_125_18 : zrun zP sv C 125 18 [l0, l1, l2] [v2, v1, .ref b, r0, r1] h = zrc (h.1 b) 10 (zbk (C 127 [.ref b, v1, v2] h) (fun v h' => zrun zP sv C 125 21 [l0, l1, l2] (v.toList ++ [r0, r1]) h') (fun E h' => some (.inr E, h'))) := zx_cv (x0 := 10) rfl rfl rfl rfl rfl ⟨Nat.le_of_ble_eq_true rfl, rfl⟩ (fun _ _ => rfl)
theorem zs_125_21 : zrun zP sv C 125 21 [l0, l1, l2] [v2, v1, .ref b] h = zrc (h.1 b) 4 (zbk (C 166 [.ref b, v1, v2] h) (fun v h' => zrun zP sv C 125 24 [l0, l1, l2] (v.toList ++ []) h') (fun E h' => some (.inr E, h'))) := zx_cv (x0 := 4) rfl rfl rfl rfl rfl ⟨Nat.le_of_ble_eq_true rfl, rfl⟩ (fun _ _ => rfl)
theorem zs_125_24 : zrun zP sv C 125 24 [l0, l1, .val (.int x)] st h = zrun zP sv C 125 27 [l0, l1, .val (.int (x + (nI 1)))] st h := zx_ii rfl rfl rfl rfl rfl
theorem zs_125_27 : zrun zP sv C 125 27 [l0, l1, l2] st h = zrun zP sv C 125 2 [l0, l1, l2] st h := zx_go rfl rfl
theorem zs_125_30 : zrun zP sv C 125 30 [.val (.ref a), l1, l2] st h = zrun zP sv C 125 31 [.val (.ref a), l1, l2] (.ref a :: st) h := zx_go rfl rfl
theorem zs_125_31 : zrun zP sv C 125 31 [l0, l1, l2] (.ref a :: st) h = zfld (h.1 a) 10 2 (fun v => zrun zP sv C 125 34 [l0, l1, l2] (v :: st) h) := zx_getf rfl rfl
theorem zs_125_34 : zrun zP sv C 125 34 [l0, .val (.ref a), l2] st h = zrun zP sv C 125 35 [l0, .val (.ref a), l2] (.ref a :: st) h := zx_go rfl rfl
theorem zs_125_35 : zrun zP sv C 125 35 [l0, l1, l2] [.ref b, r0] h = zrc (h.1 b) 6 (zbk (C 183 [.ref b] h) (fun v h' => zrun zP sv C 125 38 [l0, l1, l2] (v.toList ++ [r0]) h') (fun E h' => some (.inr E, h'))) := zx_cv (x0 := 6) rfl rfl rfl rfl rfl ⟨Nat.le_of_ble_eq_true rfl, rfl⟩ (fun _ _ => rfl)
theorem zs_125_38 : zrun zP sv C 125 38 [l0, l1, l2] [v1, .ref b] h = zrc (h.1 b) 4 (zbk (C 165 [.ref b, v1] h) (fun v h' => zrun zP sv C 125 41 [l0, l1, l2] (v.toList ++ []) h') (fun E h' => some (.inr E, h'))) := zx_cv (x0 := 4) rfl rfl rfl rfl rfl ⟨Nat.le_of_ble_eq_true rfl, rfl⟩ (fun _ _ => rfl)
theorem zs_125_41 : zrun zP sv C 125 41 [l0, l1, l2] [.int x] h = some (.inl (some (.int x)), h) := zx_end rfl rfl
theorem zs_126_0 : zrun zP sv C 126 0 [.val (.ref a), l1] st h = zrun zP sv C 126 1 [.val (.ref a), l1] (.ref a :: st) h := zx_go rfl rfl
theorem zs_126_1 : zrun zP sv C 126 1 [l0, l1] (.ref a :: st) h = zfld (h.1 a) 10 2 (fun v => zrun zP sv C 126 4 [l0, l1] (v :: st) h) := zx_getf rfl rfl
theorem zs_126_4 : zrun zP sv C 126 4 [l0, .val (.int x)] st h = zrun zP sv C 126 5 [l0, .val (.int x)] (.int x :: st) h := zx_go rfl rfl
theorem zs_126_5 : zrun zP sv C 126 5 [l0, l1] [v1, .ref b] h = zrc (h.1 b) 4 (zbk (C 165 [.ref b, v1] h) (fun v h' => zrun zP sv C 126 8 [l0, l1] (v.toList ++ []) h') (fun E h' => some (.inr E, h'))) := zx_cv (x0 := 4) rfl rfl rfl rfl rfl ⟨Nat.le_of_ble_eq_true rfl, rfl⟩ (fun _ _ => rfl)
theorem zs_126_8 : zrun zP sv C 126 8 [l0, l1] [.int x] h = some (.inl (some (.int x)), h) := zx_end rfl rfl
theorem zs_127_0 : zrun zP sv C 127 0 [.val (.ref a), l1, l2, l3, l4] st h = zrun zP sv C 127 1 [.val (.ref a), l1, l2, l3, l4] (.ref a :: st) h := zx_go rfl rfl
theorem zs_127_1 : zrun zP sv C 127 1 [l0, l1, l2, l3, l4] (.ref a :: st) h = zfld (h.1 a) 10 2 (fun v => zrun zP sv C 127 4 [l0, l1, l2, l3, l4] (v :: st) h) := zx_getf rfl rfl
theorem zs_127_4 : zrun zP sv C 127 4 [l0, .val (.ref a), l2, l3, l4] st h = zrun zP sv C 127 5 [l0, .val (.ref a), l2, l3, l4] (.ref a :: st) h := zx_go rfl rfl
theorem zs_127_5 : zrun zP sv C 127 5 [l0, l1, .val (.int x), l3, l4] st h = zrun zP sv C 127 6 [l0, l1, .val (.int x), l3, l4] (.int x :: st) h := zx_go rfl rfl
theorem zs_127_6 : zrun zP sv C 127 6 [l0, l1, l2, l3, l4] [v1, .ref b, r0] h = zrc (h.1 b) 6 (zbk (C 186 [.ref b, v1] h) (fun v h' => zrun zP sv C 127 9 [l0, l1, l2, l3, l4] (v.toList ++ [r0]) h') (fun E h' => some (.inr E, h'))) := zx_cv (x0 := 6) rfl rfl rfl rfl rfl ⟨Nat.le_of_ble_eq_true rfl, rfl⟩ (fun _ _ => rfl)
theorem zs_127_9 : zrun zP sv C 127 9 [l0, l1, l2, l3, l4] [v1, .ref b] h = zrc (h.1 b) 4 (zbk (C 165 [.ref b, v1] h) (fun v h' => zrun zP sv C 127 12 [l0, l1, l2, l3, l4] (v.toList ++ []) h') (fun E h' => some (.inr E, h'))) := zx_cv (x0 := 4) rfl rfl rfl rfl rfl ⟨Nat.le_of_ble_eq_true rfl, rfl⟩ (fun _ _ => rfl)
theorem zs_127_12 (hs : znw l3 = true) : zrun zP sv C 127 12 [l0, l1, l2, l3, l4] (.int x :: st) h = zrun zP sv C 127 13 [l0, l1, l2, .val (.int x), l4] st h := zx_st hs rfl rfl rfl rfl rfl rfl
theorem zs_127_13 : zrun zP sv C 127 13 [.val (.ref a), l1, l2, l3, l4] st h = zrun zP sv C 127 14 [.val (.ref a), l1, l2, l3, l4] (.ref a :: st) h := zx_go rfl rfl
theorem zs_127_14 : zrun zP sv C 127 14 [l0, l1, l2, l3, l4] (.ref a :: st) h = zfld (h.1 a) 10 2 (fun v => zrun zP sv C 127 17 [l0, l1, l2, l3, l4] (v :: st) h) := zx_getf rfl rfl
theorem zs_127_17 : zrun zP sv C 127 17 [l0, .val (.ref a), l2, l3, l4] st h = zrun zP sv C 127 18 [l0, .val (.ref a), l2, l3, l4] (.ref a :: st) h := zx_go rfl rfl
theorem zs_127_18 : zrun zP sv C 127 18 [l0, l1, .val (.int x), l3, l4] st h = zrun zP sv C 127 19 [l0, l1, .val (.int x), l3, l4] (.int x :: st) h := zx_go rfl rfl
theorem zs_127_19 : zrun zP sv C 127 19 [l0, l1, l2, l3, l4] [v1, .ref b, r0] h = zrc (h.1 b) 6 (zbk (C 187 [.ref b, v1] h) (fun v h' => zrun zP sv C 127 22 [l0, l1, l2, l3, l4] (v.toList ++ [r0]) h') (fun E h' => some (.inr E, h'))) := zx_cv (x0 := 6) rfl rfl rfl rfl rfl ⟨Nat.le_of_ble_eq_true rfl, rfl⟩ (fun _ _ => rfl)
theorem zs_127_22 : zrun zP sv C 127 22 [l0, l1, l2, l3, l4] [v1, .ref b] h = zrc (h.1 b) 4 (zbk (C 165 [.ref b, v1] h) (fun v h' => zrun zP sv C 127 25 [l0, l1, l2, l3, l4] (v.toList ++ []) h') (fun E h' => some (.inr E, h'))) := zx_cv (x0 := 4) rfl rfl rfl rfl rfl ⟨Nat.le_of_ble_eq_true rfl, rfl⟩ (fun _ _ => rfl)
theorem zs_127_25 (hs : znw l4 = true) : zrun zP sv C 127 25 [l0, l1, l2, l3, l4] (.int x :: st) h = zrun zP sv C 127 27 [l0, l1, l2, l3, .val (.int x)] st h := zx_st hs rfl rfl rfl rfl rfl rfl
theorem zs_127_27 : zrun zP sv C 127 27 [l0, .val (.ref a), l2, l3, l4] st h = zrun zP sv C 127 28 [l0, .val (.ref a), l2, l3, l4] (.ref a :: st) h := zx_go rfl rfl
theorem zs_127_28 : zrun zP sv C 127 28 [l0, l1, .val (.int x), l3, l4] st h = zrun zP sv C 127 29 [l0, l1, .val (.int x), l3, l4] (.int x :: st) h := zx_go rfl rfl
theorem zs_127_29 : zrun zP sv C 127 29 [l0, l1, l2, l3, l4] [v1, .ref b] h = zrc (h.1 b) 6 (zbk (C 184 [.ref b, v1] h) (fun v h' => zrun zP sv C 127 32 [l0, l1, l2, l3, l4] (v.toList ++ []) h') (fun E h' => some (.inr E, h'))) := zx_cv (x0 := 6) rfl rfl rfl rfl rfl ⟨Nat.le_of_ble_eq_true rfl, rfl⟩ (fun _ _ => rfl)
theorem zs_127_32 : zrun zP sv C 127 32 [l0, l1, l2, l3, l4] [v0] h = zbk (C 83 [v0] h) (fun v h' => zrun zP sv C 127 35 [l0, l1, l2, l3, l4] (v.toList ++ []) h') (fun E h' => some (.inr E, h')) := zx_cs rfl rfl rfl rfl ⟨Nat.le_of_ble_eq_true rfl, rfl⟩ (fun _ _ => rfl)
theorem zs_127_35 : zrun zP sv C 127 35 [l0, l1, l2, l3, l4] (.int x :: st) h = if x = 0 then zrun zP sv C 127 57 [l0, l1, l2, l3, l4] st h else zrun zP sv C 127 38 [l0, l1, l2, l3, l4] st h := (zx_if rfl rfl).trans zc0_if
theorem zs_127_38 : zrun zP sv C 127 38 [l0, l1, l2, .val (.int x), l4] st h = zrun zP sv C 127 39 [l0, l1, l2, .val (.int x), l4] (.int x :: st) h := zx_go rfl rfl
theorem zs_127_39 : zrun zP sv C 127 39 [l0, l1, l2, l3, .val (.int x)] st h = zrun zP sv C 127 41 [l0, l1, l2, l3, .val (.int x)] (.int x :: st) h := zx_go rfl rfl
theorem zs_127_41 : zrun zP sv C 127 41 [l0, l1, l2, l3, l4] (.int y :: .int x :: st) h = if x = y then zrun zP sv C 127 44 [l0, l1, l2, l3, l4] st h else zrun zP sv C 127 50 [l0, l1, l2, l3, l4] st h := (zx_ic rfl rfl).trans zc1_if
theorem zs_127_44 : zrun zP sv C 127 44 [l0, l1, l2, .val (.int x), l4] st h = zrun zP sv C 127 45 [l0, l1, l2, .val (.int x), l4] (.int x :: st) h := zx_go rfl rfl
theorem zs_127_45 : zrun zP sv C 127 45 [l0, l1, l2, l3, l4] st h = zrun zP sv C 127 46 [l0, l1, l2, l3, l4] (.int (nI 1) :: st) h := zx_go rfl rfl
theorem zs_127_46 : zrun zP sv C 127 46 [l0, l1, l2, l3, l4] (.int y :: .int x :: st) h = zrun zP sv C 127 47 [l0, l1, l2, l3, l4] (.int (x + y) :: st) h := zx_go rfl rfl
theorem zs_127_47 : zrun zP sv C 127 47 [l0, l1, l2, l3, l4] st h = zrun zP sv C 127 56 [l0, l1, l2, l3, l4] st h := zx_go rfl rfl
theorem zs_127_50 : zrun zP sv C 127 50 [l0, l1, l2, .val (.int x), l4] st h = zrun zP sv C 127 51 [l0, l1, l2, .val (.int x), l4] (.int x :: st) h := zx_go rfl rfl
theorem zs_127_51 : zrun zP sv C 127 51 [l0, l1, l2, l3, .val (.int x)] st h = zrun zP sv C 127 53 [l0, l1, l2, l3, .val (.int x)] (.int x :: st) h := zx_go rfl rfl
theorem zs_127_53 : zrun zP sv C 127 53 [l0, l1, l2, l3, l4] [.int y, .int x] h = zrun zP sv C 127 56 [l0, l1, l2, l3, l4] [.int (if x < y then y else x)] h := zx_go rfl rfl
theorem zs_127_56 : zrun zP sv C 127 56 [l0, l1, l2, l3, l4] [.int x] h = some (.inl (some (.int x)), h) := zx_end rfl rfl
theorem zs_127_57 : zrun zP sv C 127 57 [l0, .val (.ref a), l2, l3, l4] st h = zrun zP sv C 127 58 [l0, .val (.ref a), l2, l3, l4] (.ref a :: st) h := zx_go rfl rfl
theorem zs_127_58 : zrun zP sv C 127 58 [l0, l1, .val (.int x), l3, l4] st h = zrun zP sv C 127 59 [l0, l1, .val (.int x), l3, l4] (.int x :: st) h := zx_go rfl rfl
theorem zs_127_59 : zrun zP sv C 127 59 [l0, l1, l2, l3, l4] [v1, .ref b] h = zrc (h.1 b) 6 (zbk (C 184 [.ref b, v1] h) (fun v h' => zrun zP sv C 127 62 [l0, l1, l2, l3, l4] (v.toList ++ []) h') (fun E h' => some (.inr E, h'))) := zx_cv (x0 := 6) rfl rfl rfl rfl rfl ⟨Nat.le_of_ble_eq_true rfl, rfl⟩ (fun _ _ => rfl)
theorem zs_127_62 : zrun zP sv C 127 62 [l0, l1, l2, l3, l4] st h = zrun zP sv C 127 64 [l0, l1, l2, l3, l4] (.int (nI 110) :: st) h := zx_go rfl rfl
theorem zs_127_64 : zrun zP sv C 127 64 [l0, l1, l2, l3, l4] (.int y :: .int x :: st) h = if x = y then zrun zP sv C 127 67 [l0, l1, l2, l3, l4] st h else zrun zP sv C 127 71 [l0, l1, l2, l3, l4] st h := (zx_ic rfl rfl).trans zc1_if
theorem zs_127_67 : zrun zP sv C 127 67 [l0, l1, l2, .val (.int x), l4] st h = zrun zP sv C 127 68 [l0, l1, l2, .val (.int x), l4] (.int x :: st) h := zx_go rfl rfl
theorem zs_127_68 : zrun zP sv C 127 68 [l0, l1, l2, l3, l4] st h = zrun zP sv C 127 72 [l0, l1, l2, l3, l4] st h := zx_go rfl rfl
theorem zs_127_71 : zrun zP sv C 127 71 [l0, l1, l2, l3, l4] st h = zrun zP sv C 127 72 [l0, l1, l2, l3, l4] (.int (nI 1) :: st) h := zx_go rfl rfl
theorem zs_127_72 : zrun zP sv C 127 72 [l0, l1, l2, l3, l4] [.int x] h = some (.inl (some (.int x)), h) := zx_end rfl rfl
theorem zs_128_0 : zrun zP sv C 128 0 [l0, l1, l2] st h = zrun zP sv C 128 1 [l0, l1, l2] (.int 0 :: st) h := zx_go rfl rfl
theorem zs_128_1 (hs : znw l2 = true) : zrun zP sv C 128 1 [l0, l1, l2] (.int x :: st) h = zrun zP sv C 128 2 [l0, l1, .val (.int x)] st h := zx_st hs rfl rfl rfl rfl rfl rfl
theorem zs_128_2 : zrun zP sv C 128 2 [l0, l1, .val (.int x)] st h = zrun zP sv C 128 3 [l0, l1, .val (.int x)] (.int x :: st) h := zx_go rfl rfl
theorem zs_128_3 : zrun zP sv C 128 3 [l0, .val (.ref a), l2] st h = zrun zP sv C 128 4 [l0, .val (.ref a), l2] (.ref a :: st) h := zx_go rfl rfl
theorem zs_128_4 : zrun zP sv C 128 4 [l0, l1, l2] [.ref b, r0] h = zrc (h.1 b) 6 (zbk (C 182 [.ref b] h) (fun v h' => zrun zP sv C 128 7 [l0, l1, l2] (v.toList ++ [r0]) h') (fun E h' => some (.inr E, h'))) := zx_cv (x0 := 6) rfl rfl rfl rfl rfl ⟨Nat.le_of_ble_eq_true rfl, rfl⟩ (fun _ _ => rfl)
theorem zs_128_7 : zrun zP sv C 128 7 [l0, l1, l2] (.int y :: .int x :: st) h = if x < y then zrun zP sv C 128 10 [l0, l1, l2] st h else zrun zP sv C 128 30 [l0, l1, l2] st h := (zx_ic rfl rfl).trans zc3_if
theorem zs_128_10 : zrun zP sv C 128 10 [.val (.ref a), l1, l2] st h = zrun zP sv C 128 11 [.val (.ref a), l1, l2] (.ref a :: st) h := zx_go rfl rfl
theorem zs_128_11 : zrun zP sv C 128 11 [l0, l1, l2] (.ref a :: st) h = zfld (h.1 a) 10 0 (fun v => zrun zP sv C 128 14 [l0, l1, l2] (v :: st) h) := zx_getf rfl rfl
theorem zs_128_14 : zrun zP sv C 128 14 [l0, l1, .val (.int x)] st h = zrun zP sv C 128 15 [l0, l1, .val (.int x)] (.int x :: st) h := zx_go rfl rfl
theorem zs_128_15 : zrun zP sv C 128 15 [.val (.ref a), l1, l2] st h = zrun zP sv C 128 16 [.val (.ref a), l1, l2] (.ref a :: st) h := zx_go rfl rfl
theorem zs_128_16 : zrun zP sv C 128 16 [l0, .val (.ref a), l2] st h = zrun zP sv C 128 17 [l0, .val (.ref a), l2] (.ref a :: st) h := zx_go rfl rfl
theorem zs_128_17 : zrun zP sv C 128 17 [l0, l1, .val (.int x)] st h = zrun zP sv C 128 18 [l0, l1, .val (.int x)] (.int x :: st) h := zx_go rfl rfl
theorem zs_128_18 : zrun zP sv C 128 18 [l0, l1, l2] [v2, v1, .ref b, r0, r1] h = zrc (h.1 b) 10 (zbk (C 129 [.ref b, v1, v2] h) (fun v h' => zrun zP sv C 128 21 [l0, l1, l2] (v.toList ++ [r0, r1]) h') (fun E h' => some (.inr E, h'))) := zx_cv (x0 := 10) rfl rfl rfl rfl rfl ⟨Nat.le_of_ble_eq_true rfl, rfl⟩ (fun _ _ => rfl)
theorem zs_128_21 : zrun zP sv C 128 21 [l0, l1, l2] [v2, v1, .ref b] h = zrc (h.1 b) 4 (zbk (C 166 [.ref b, v1, v2] h) (fun v h' => zrun zP sv C 128 24 [l0, l1, l2] (v.toList ++ []) h') (fun E h' => some (.inr E, h'))) := zx_cv (x0 := 4) rfl rfl rfl rfl rfl ⟨Nat.le_of_ble_eq_true rfl, rfl⟩ (fun _ _ => rfl)
theorem zs_128_24 : zrun zP sv C 128 24 [l0, l1, .val (.int x)] st h = zrun zP sv C 128 27 [l0, l1, .val (.int (x + (nI 1)))] st h := zx_ii rfl rfl rfl rfl rfl
theorem zs_128_27 : zrun zP sv C 128 27 [l0, l1, l2] st h = zrun zP sv C 128 2 [l0, l1, l2] st h := zx_go rfl rfl
theorem zs_128_30 : zrun zP sv C 128 30 [.val (.ref a), l1, l2] st h = zrun zP sv C 128 31 [.val (.ref a), l1, l2] (.ref a :: st) h := zx_go rfl rfl
theorem zs_128_31 : zrun zP sv C 128 31 [l0, l1, l2] (.ref a :: st) h = zfld (h.1 a) 10 0 (fun v => zrun zP sv C 128 34 [l0, l1, l2] (v :: st) h) := zx_getf rfl rfl
theorem zs_128_34 : zrun zP sv C 128 34 [l0, .val (.ref a), l2] st h = zrun zP sv C 128 35 [l0, .val (.ref a), l2] (.ref a :: st) h := zx_go rfl rfl
theorem zs_128_35 : zrun zP sv C 128 35 [l0, l1, l2] [.ref b, r0] h = zrc (h.1 b) 6 (zbk (C 183 [.ref b] h) (fun v h' => zrun zP sv C 128 38 [l0, l1, l2] (v.toList ++ [r0]) h') (fun E h' => some (.inr E, h'))) := zx_cv (x0 := 6) rfl rfl rfl rfl rfl ⟨Nat.le_of_ble_eq_true rfl, rfl⟩ (fun _ _ => rfl)
theorem zs_128_38 : zrun zP sv C 128 38 [l0, l1, l2] [v1, .ref b] h = zrc (h.1 b) 4 (zbk (C 165 [.ref b, v1] h) (fun v h' => zrun zP sv C 128 41 [l0, l1, l2] (v.toList ++ []) h') (fun E h' => some (.inr E, h'))) := zx_cv (x0 := 4) rfl rfl rfl rfl rfl ⟨Nat.le_of_ble_eq_true rfl, rfl⟩ (fun _ _ => rfl)
theorem zs_128_41 : zrun zP sv C 128 41 [l0, l1, l2] [.int x] h = some (.inl (some (.int x)), h) := zx_end rfl rfl
theorem zs_129_0 : zrun zP sv C 129 0 [.val (.ref a), l1, l2, l3, l4, l5, l6] st h = zrun zP sv C 129 1 [.val (.ref a), l1, l2, l3, l4, l5, l6] (.ref a :: st) h := zx_go rfl rfl
theorem zs_129_1 : zrun zP sv C 129 1 [l0, l1, l2, l3, l4, l5, l6] (.ref a :: st) h = zfld (h.1 a) 10 0 (fun v => zrun zP sv C 129 4 [l0, l1, l2, l3, l4, l5, l6] (v :: st) h) := zx_getf rfl rfl
theorem zs_129_4 : zrun zP sv C 129 4 [l0, .val (.ref a), l2, l3, l4, l5, l6] st h = zrun zP sv C 129 5 [l0, .val (.ref a), l2, l3, l4, l5, l6] (.ref a :: st) h := zx_go rfl rfl
theorem zs_129_5 : zrun zP sv C 129 5 [l0, l1, .val (.int x), l3, l4, l5, l6] st h = zrun zP sv C 129 6 [l0, l1, .val (.int x), l3, l4, l5, l6] (.int x :: st) h := zx_go rfl rfl
theorem zs_129_6 : zrun zP sv C 129 6 [l0, l1, l2, l3, l4, l5, l6] [v1, .ref b, r0] h = zrc (h.1 b) 6 (zbk (C 186 [.ref b, v1] h) (fun v h' => zrun zP sv C 129 9 [l0, l1, l2, l3, l4, l5, l6] (v.toList ++ [r0]) h') (fun E h' => some (.inr E, h'))) := zx_cv (x0 := 6) rfl rfl rfl rfl rfl ⟨Nat.le_of_ble_eq_true rfl, rfl⟩ (fun _ _ => rfl)
theorem zs_129_9 : zrun zP sv C 129 9 [l0, l1, l2, l3, l4, l5, l6] [v1, .ref b] h = zrc (h.1 b) 4 (zbk (C 165 [.ref b, v1] h) (fun v h' => zrun zP sv C 129 12 [l0, l1, l2, l3, l4, l5, l6] (v.toList ++ []) h') (fun E h' => some (.inr E, h'))) := zx_cv (x0 := 4) rfl rfl rfl rfl rfl ⟨Nat.le_of_ble_eq_true rfl, rfl⟩ (fun _ _ => rfl)
theorem zs_129_12 (hs : znw l3 = true) : zrun zP sv C 129 12 [l0, l1, l2, l3, l4, l5, l6] (.int x :: st) h = zrun zP sv C 129 13 [l0, l1, l2, .val (.int x), l4, l5, l6] st h := zx_st hs rfl rfl rfl rfl rfl rfl
theorem zs_129_13 : zrun zP sv C 129 13 [.val (.ref a), l1, l2, l3, l4, l5, l6] st h = zrun zP sv C 129 14 [.val (.ref a), l1, l2, l3, l4, l5, l6] (.ref a :: st) h := zx_go rfl rfl
theorem zs_129_14 : zrun zP sv C 129 14 [l0, l1, l2, l3, l4, l5, l6] (.ref a :: st) h = zfld (h.1 a) 10 0 (fun v => zrun zP sv C 129 17 [l0, l1, l2, l3, l4, l5, l6] (v :: st) h) := zx_getf rfl rfl
theorem zs_129_17 : zrun zP sv C 129 17 [l0, .val (.ref a), l2, l3, l4, l5, l6] st h = zrun zP sv C 129 18 [l0, .val (.ref a), l2, l3, l4, l5, l6] (.ref a :: st) h := zx_go rfl rfl
theorem zs_129_18 : zrun zP sv C 129 18 [l0, l1, .val (.int x), l3, l4, l5, l6] st h = zrun zP sv C 129 19 [l0, l1, .val (.int x), l3, l4, l5, l6] (.int x :: st) h := zx_go rfl rfl
theorem zs_129_19 : zrun zP sv C 129 19 [l0, l1, l2, l3, l4, l5, l6] [v1, .ref b, r0] h = zrc (h.1 b) 6 (zbk (C 187 [.ref b, v1] h) (fun v h' => zrun zP sv C 129 22 [l0, l1, l2, l3, l4, l5, l6] (v.toList ++ [r0]) h') (fun E h' => some (.inr E, h'))) := zx_cv (x0 := 6) rfl rfl rfl rfl rfl ⟨Nat.le_of_ble_eq_true rfl, rfl⟩ (fun _ _ => rfl)
theorem zs_129_22 : zrun zP sv C 129 22 [l0, l1, l2, l3, l4, l5, l6] [v1, .ref b] h = zrc (h.1 b) 4 (zbk (C 165 [.ref b, v1] h) (fun v h' => zrun zP sv C 129 25 [l0, l1, l2, l3, l4, l5, l6] (v.toList ++ []) h') (fun E h' => some (.inr E, h'))) := zx_cv (x0 := 4) rfl rfl rfl rfl rfl ⟨Nat.le_of_ble_eq_true rfl, rfl⟩ (fun _ _ => rfl)
theorem zs_129_25 (hs : znw l4 = true) : zrun zP sv C 129 25 [l0, l1, l2, l3, l4, l5, l6] (.int x :: st) h = zrun zP sv C 129 27 [l0, l1, l2, l3, .val (.int x), l5, l6] st h := zx_st hs rfl rfl rfl rfl rfl rfl
theorem zs_129_27 : zrun zP sv C 129 27 [l0, .val (.ref a), l2, l3, l4, l5, l6] st h = zrun zP sv C 129 28 [l0, .val (.ref a), l2, l3, l4, l5, l6] (.ref a :: st) h := zx_go rfl rfl
theorem zs_129_28 : zrun zP sv C 129 28 [l0, l1, .val (.int x), l3, l4, l5, l6] st h = zrun zP sv C 129 29 [l0, l1, .val (.int x), l3, l4, l5, l6] (.int x :: st) h := zx_go rfl rfl
theorem zs_129_29 : zrun zP sv C 129 29 [l0, l1, l2, l3, l4, l5, l6] [v1, .ref b] h = zrc (h.1 b) 6 (zbk (C 184 [.ref b, v1] h) (fun v h' => zrun zP sv C 129 32 [l0, l1, l2, l3, l4, l5, l6] (v.toList ++ []) h') (fun E h' => some (.inr E, h'))) := zx_cv (x0 := 6) rfl rfl rfl rfl rfl ⟨Nat.le_of_ble_eq_true rfl, rfl⟩ (fun _ _ => rfl)
theorem zs_129_32 : zrun zP sv C 129 32 [l0, l1, l2, l3, l4, l5, l6] [v0] h = zbk (C 83 [v0] h) (fun v h' => zrun zP sv C 129 35 [l0, l1, l2, l3, l4, l5, l6] (v.toList ++ []) h') (fun E h' => some (.inr E, h')) := zx_cs rfl rfl rfl rfl ⟨Nat.le_of_ble_eq_true rfl, rfl⟩ (fun _ _ => rfl)
theorem zs_129_35 : zrun zP sv C 129 35 [l0, l1, l2, l3, l4, l5, l6] (.int x :: st) h = if x = 0 then zrun zP sv C 129 66 [l0, l1, l2, l3, l4, l5, l6] st h else zrun zP sv C 129 38 [l0, l1, l2, l3, l4, l5, l6] st h := (zx_if rfl rfl).trans zc0_if
theorem zs_129_38 : zrun zP sv C 129 38 [l0, l1, l2, .val (.int x), l4, l5, l6] st h = zrun zP sv C 129 39 [l0, l1, l2, .val (.int x), l4, l5, l6] (.int x :: st) h := zx_go rfl rfl
theorem zs_129_39 : zrun zP sv C 129 39 [l0, l1, l2, l3, .val (.int x), l5, l6] st h = zrun zP sv C 129 41 [l0, l1, l2, l3, .val (.int x), l5, l6] (.int x :: st) h := zx_go rfl rfl
theorem zs_129_41 : zrun zP sv C 129 41 [l0, l1, l2, l3, l4, l5, l6] st h = zrun zP sv C 129 42 [l0, l1, l2, l3, l4, l5, l6] (.int (nI 1) :: st) h := zx_go rfl rfl
theorem zs_129_42 : zrun zP sv C 129 42 [l0, l1, l2, l3, l4, l5, l6] (.int y :: .int x :: st) h = zrun zP sv C 129 43 [l0, l1, l2, l3, l4, l5, l6] (.int (x + y) :: st) h := zx_go rfl rfl
theorem zs_129_43 : zrun zP sv C 129 43 [l0, l1, l2, l3, l4, l5, l6] [.int y, .int x] h = zrun zP sv C 129 46 [l0, l1, l2, l3, l4, l5, l6] [.int (if x < y then y else x)] h := zx_go rfl rfl
theorem zs_129_46 (hs : znw l5 = true) : zrun zP sv C 129 46 [l0, l1, l2, l3, l4, l5, l6] (.int x :: st) h = zrun zP sv C 129 48 [l0, l1, l2, l3, l4, .val (.int x), l6] st h := zx_st hs rfl rfl rfl rfl rfl rfl
theorem zs_129_48 : zrun zP sv C 129 48 [l0, l1, l2, l3, .val (.int x), l5, l6] st h = zrun zP sv C 129 50 [l0, l1, l2, l3, .val (.int x), l5, l6] (.int x :: st) h := zx_go rfl rfl
theorem zs_129_50 : zrun zP sv C 129 50 [l0, l1, l2, .val (.int x), l4, l5, l6] st h = zrun zP sv C 129 51 [l0, l1, l2, .val (.int x), l4, l5, l6] (.int x :: st) h := zx_go rfl rfl
theorem zs_129_51 : zrun zP sv C 129 51 [l0, l1, l2, l3, l4, l5, l6] st h = zrun zP sv C 129 52 [l0, l1, l2, l3, l4, l5, l6] (.int (nI 1) :: st) h := zx_go rfl rfl
theorem zs_129_52 : zrun zP sv C 129 52 [l0, l1, l2, l3, l4, l5, l6] (.int y :: .int x :: st) h = zrun zP sv C 129 53 [l0, l1, l2, l3, l4, l5, l6] (.int (x + y) :: st) h := zx_go rfl rfl
theorem zs_129_53 : zrun zP sv C 129 53 [l0, l1, l2, l3, l4, l5, l6] [.int y, .int x] h = zrun zP sv C 129 56 [l0, l1, l2, l3, l4, l5, l6] [.int (if x < y then y else x)] h := zx_go rfl rfl
theorem zs_129_56 (hs : znw l6 = true) : zrun zP sv C 129 56 [l0, l1, l2, l3, l4, l5, l6] (.int x :: st) h = zrun zP sv C 129 58 [l0, l1, l2, l3, l4, l5, .val (.int x)] st h := zx_st hs rfl rfl rfl rfl rfl rfl
theorem zs_129_58 : zrun zP sv C 129 58 [l0, l1, l2, l3, l4, .val (.int x), l6] st h = zrun zP sv C 129 60 [l0, l1, l2, l3, l4, .val (.int x), l6] (.int x :: st) h := zx_go rfl rfl
theorem zs_129_60 : zrun zP sv C 129 60 [l0, l1, l2, l3, l4, l5, .val (.int x)] st h = zrun zP sv C 129 62 [l0, l1, l2, l3, l4, l5, .val (.int x)] (.int x :: st) h := zx_go rfl rfl
theorem zs_129_62 : zrun zP sv C 129 62 [l0, l1, l2, l3, l4, l5, l6] [.int y, .int x] h = zrun zP sv C 129 65 [l0, l1, l2, l3, l4, l5, l6] [.int (if y < x then y else x)] h := zx_go rfl rfl
theorem zs_129_65 : zrun zP sv C 129 65 [l0, l1, l2, l3, l4, l5, l6] [.int x] h = some (.inl (some (.int x)), h) := zx_end rfl rfl
theorem zs_129_66 : zrun zP sv C 129 66 [l0, .val (.ref a), l2, l3, l4, l5, l6] st h = zrun zP sv C 129 67 [l0, .val (.ref a), l2, l3, l4, l5, l6] (.ref a :: st) h := zx_go rfl rfl
theorem zs_129_67 : zrun zP sv C 129 67 [l0, l1, .val (.int x), l3, l4, l5, l6] st h = zrun zP sv C 129 68 [l0, l1, .val (.int x), l3, l4, l5, l6] (.int x :: st) h := zx_go rfl rfl
theorem zs_129_68 : zrun zP sv C 129 68 [l0, l1, l2, l3, l4, l5, l6] [v1, .ref b] h = zrc (h.1 b) 6 (zbk (C 184 [.ref b, v1] h) (fun v h' => zrun zP sv C 129 71 [l0, l1, l2, l3, l4, l5, l6] (v.toList ++ []) h') (fun E h' => some (.inr E, h'))) := zx_cv (x0 := 6) rfl rfl rfl rfl rfl ⟨Nat.le_of_ble_eq_true rfl, rfl⟩ (fun _ _ => rfl)
theorem zs_129_71 : zrun zP sv C 129 71 [l0, l1, l2, l3, l4, l5, l6] st h = zrun zP sv C 129 73 [l0, l1, l2, l3, l4, l5, l6] (.int (nI 110) :: st) h := zx_go rfl rfl
theorem zs_129_73 : zrun zP sv C 129 73 [l0, l1, l2, l3, l4, l5, l6] (.int y :: .int x :: st) h = if x = y then zrun zP sv C 129 76 [l0, l1, l2, l3, l4, l5, l6] st h else zrun zP sv C 129 80 [l0, l1, l2, l3, l4, l5, l6] st h := (zx_ic rfl rfl).trans zc1_if
theorem zs_129_76 : zrun zP sv C 129 76 [l0, l1, l2, .val (.int x), l4, l5, l6] st h = zrun zP sv C 129 77 [l0, l1, l2, .val (.int x), l4, l5, l6] (.int x :: st) h := zx_go rfl rfl
theorem zs_129_77 : zrun zP sv C 129 77 [l0, l1, l2, l3, l4, l5, l6] st h = zrun zP sv C 129 81 [l0, l1, l2, l3, l4, l5, l6] st h := zx_go rfl rfl
theorem zs_129_80 : zrun zP sv C 129 80 [l0, l1, l2, l3, l4, l5, l6] st h = zrun zP sv C 129 81 [l0, l1, l2, l3, l4, l5, l6] (.int (nI 1) :: st) h := zx_go rfl rfl
theorem zs_129_81 : zrun zP sv C 129 81 [l0, l1, l2, l3, l4, l5, l6] [.int x] h = some (.inl (some (.int x)), h) := zx_end rfl rfl
theorem zs_130_0 : zrun zP sv C 130 0 [.val (.ref a), l1] st h = zrun zP sv C 130 1 [.val (.ref a), l1] (.ref a :: st) h := zx_go rfl rfl
theorem zs_130_0n : zrun zP sv C 130 0 [.val .null, l1] st h = zrun zP sv C 130 1 [.val .null, l1] (.null :: st) h := zx_go rfl rfl
theorem zs_130_1 : zrun zP sv C 130 1 [l0, l1] [.ref a] h = zrun zP sv C 130 4 [l0, l1] [] h := zx_go rfl rfl
theorem zs_130_4 : zrun zP sv C 130 4 [.val (.ref a), l1] st h = zrun zP sv C 130 5 [.val (.ref a), l1] (.ref a :: st) h := zx_go rfl rfl
theorem zs_130_4n : zrun zP sv C 130 4 [.val .null, l1] st h = zrun zP sv C 130 5 [.val .null, l1] (.null :: st) h := zx_go rfl rfl
theorem zs_130_5 : zrun zP sv C 130 5 [l0, l1] st h = zrun zP sv C 130 7 [l0, l1] (.int (nI 8) :: st) h := zx_go rfl rfl
theorem zs_130_7 : zrun zP sv C 130 7 [l0, l1] (.int x :: st) h = znwa x (fun q => zrun zP sv C 130 10 [l0, l1] (.ref h.2.1 :: st) (znew h (26, List.replicate q (.null)) q)) := zx_nwa rfl rfl
theorem zs_130_10 : zrun zP sv C 130 10 [l0, l1] (.ref b :: .ref a :: st) h = zpfd (h.1 a) 5 0 4 (.ref b) (fun c => zrun zP sv C 130 13 [l0, l1] st (zup h a c)) := zx_putf (x0 := 4) rfl rfl
theorem zs_130_10n : zrun zP sv C 130 10 [l0, l1] (.null :: .ref a :: st) h = zpfd (h.1 a) 5 0 4 (.null) (fun c => zrun zP sv C 130 13 [l0, l1] st (zup h a c)) := zx_putf (x0 := 4) rfl rfl
theorem zs_130_13 : zrun zP sv C 130 13 [l0, l1] st h = zrun zP sv C 130 14 [l0, l1] (.int 0 :: st) h := zx_go rfl rfl
theorem zs_130_14 (hs : znw l1 = true) : zrun zP sv C 130 14 [l0, l1] (.int x :: st) h = zrun zP sv C 130 15 [l0, .val (.int x)] st h := zx_st hs rfl rfl rfl rfl rfl rfl
theorem zs_130_15 : zrun zP sv C 130 15 [l0, .val (.int x)] st h = zrun zP sv C 130 16 [l0, .val (.int x)] (.int x :: st) h := zx_go rfl rfl
theorem zs_130_16 : zrun zP sv C 130 16 [.val (.ref a), l1] st h = zrun zP sv C 130 17 [.val (.ref a), l1] (.ref a :: st) h := zx_go rfl rfl
theorem zs_130_16n : zrun zP sv C 130 16 [.val .null, l1] st h = zrun zP sv C 130 17 [.val .null, l1] (.null :: st) h := zx_go rfl rfl
theorem zs_130_17 : zrun zP sv C 130 17 [l0, l1] (.ref a :: st) h = zfld (h.1 a) 5 0 (fun v => zrun zP sv C 130 20 [l0, l1] (v :: st) h) := zx_getf rfl rfl
theorem zs_130_20 : zrun zP sv C 130 20 [l0, l1] (.ref a :: st) h = zaln (h.1 a) (fun v => zrun zP sv C 130 21 [l0, l1] (.int v :: st) h) := zx_aln rfl rfl
theorem zs_130_21 : zrun zP sv C 130 21 [l0, l1] (.int y :: .int x :: st) h = if x < y then zrun zP sv C 130 24 [l0, l1] st h else zrun zP sv C 130 43 [l0, l1] st h := (zx_ic rfl rfl).trans zc3_if
theorem zs_130_24 : zrun zP sv C 130 24 [.val (.ref a), l1] st h = zrun zP sv C 130 25 [.val (.ref a), l1] (.ref a :: st) h := zx_go rfl rfl
theorem zs_130_24n : zrun zP sv C 130 24 [.val .null, l1] st h = zrun zP sv C 130 25 [.val .null, l1] (.null :: st) h := zx_go rfl rfl
theorem zs_130_25 : zrun zP sv C 130 25 [l0, l1] (.ref a :: st) h = zfld (h.1 a) 5 0 (fun v => zrun zP sv C 130 28 [l0, l1] (v :: st) h) := zx_getf rfl rfl
theorem zs_130_28 : zrun zP sv C 130 28 [l0, .val (.int x)] st h = zrun zP sv C 130 29 [l0, .val (.int x)] (.int x :: st) h := zx_go rfl rfl
theorem zs_130_29 : zrun zP sv C 130 29 [l0, l1] st h = zrun zP sv C 130 32 [l0, l1] (.ref h.2.1 :: st) (znew h (3, [.null, .int 0, .null, .int 0, .int 0]) 5) := zx_go rfl rfl
theorem zs_130_32 : zrun zP sv C 130 32 [l0, l1] (.ref a :: st) h = zrun zP sv C 130 33 [l0, l1] (.ref a :: .ref a :: st) h := zx_go rfl rfl
theorem zs_130_33 : zrun zP sv C 130 33 [l0, l1] [.ref b, r0, r1, r2] h = zrc (h.1 b) 3 (zbk (C 168 [.ref b] h) (fun v h' => zrun zP sv C 130 36 [l0, l1] (v.toList ++ [r0, r1, r2]) h') (fun E h' => some (.inr E, h'))) := zx_cv (x0 := 3) rfl rfl rfl rfl rfl ⟨Nat.le_of_ble_eq_true rfl, rfl⟩ (fun _ _ => rfl)
theorem zs_130_36 : zrun zP sv C 130 36 [l0, l1] (.ref b :: .int x :: .ref a :: st) h = zasr (h.1 a) (h.1 b) 26 3 x b (fun c => zrun zP sv C 130 37 [l0, l1] st (zup h a c)) := zx_asr rfl rfl
theorem zs_130_36n : zrun zP sv C 130 36 [l0, l1] (.null :: .int x :: .ref a :: st) h = zasn (h.1 a) 26 x (fun c => zrun zP sv C 130 37 [l0, l1] st (zup h a c)) := zx_asn rfl rfl
theorem zs_130_37 : zrun zP sv C 130 37 [l0, .val (.int x)] st h = zrun zP sv C 130 40 [l0, .val (.int (x + (nI 1)))] st h := zx_ii rfl rfl rfl rfl rfl
theorem zs_130_40 : zrun zP sv C 130 40 [l0, l1] st h = zrun zP sv C 130 15 [l0, l1] st h := zx_go rfl rfl
theorem zs_130_43 : zrun zP sv C 130 43 [.val (.ref a), l1] st h = zrun zP sv C 130 44 [.val (.ref a), l1] (.ref a :: st) h := zx_go rfl rfl
theorem zs_130_43n : zrun zP sv C 130 43 [.val .null, l1] st h = zrun zP sv C 130 44 [.val .null, l1] (.null :: st) h := zx_go rfl rfl
theorem zs_130_44 : zrun zP sv C 130 44 [l0, l1] st h = zrun zP sv C 130 45 [l0, l1] (.int 0 :: st) h := zx_go rfl rfl
theorem zs_130_45 : zrun zP sv C 130 45 [l0, l1] (.int x :: .ref a :: st) h = zpfd (h.1 a) 5 1 0 (.int x) (fun c => zrun zP sv C 130 48 [l0, l1] st (zup h a c)) := zx_putf (x0 := 0) rfl rfl
theorem zs_130_48 : zrun zP sv C 130 48 [.val (.ref a), l1] st h = zrun zP sv C 130 49 [.val (.ref a), l1] (.ref a :: st) h := zx_go rfl rfl
theorem zs_130_48n : zrun zP sv C 130 48 [.val .null, l1] st h = zrun zP sv C 130 49 [.val .null, l1] (.null :: st) h := zx_go rfl rfl
theorem zs_130_49 : zrun zP sv C 130 49 [l0, l1] st h = zrun zP sv C 130 50 [l0, l1] (.int 0 :: st) h := zx_go rfl rfl
theorem zs_130_50 : zrun zP sv C 130 50 [l0, l1] (.int x :: .ref a :: st) h = zpfd (h.1 a) 5 2 0 (.int x) (fun c => zrun zP sv C 130 53 [l0, l1] st (zup h a c)) := zx_putf (x0 := 0) rfl rfl
theorem zs_130_53 : zrun zP sv C 130 53 [l0, l1] [] h = some (.inl none, h) := zx_end rfl rfl
theorem zs_131_0 : zrun zP sv C 131 0 [.val (.ref a)] st h = zrun zP sv C 131 1 [.val (.ref a)] (.ref a :: st) h := zx_go rfl rfl
theorem zs_131_0n : zrun zP sv C 131 0 [.val .null] st h = zrun zP sv C 131 1 [.val .null] (.null :: st) h := zx_go rfl rfl
theorem zs_131_1 : zrun zP sv C 131 1 [l0] (.ref a :: st) h = zfld (h.1 a) 5 2 (fun v => zrun zP sv C 131 4 [l0] (v :: st) h) := zx_getf rfl rfl
theorem zs_131_4 : zrun zP sv C 131 4 [l0] [.int x] h = some (.inl (some (.int x)), h) := zx_end rfl rfl
theorem zs_132_0 : zrun zP sv C 132 0 [.val (.ref a), l1, l2] st h = zrun zP sv C 132 1 [.val (.ref a), l1, l2] (.ref a :: st) h := zx_go rfl rfl
theorem zs_132_0n : zrun zP sv C 132 0 [.val .null, l1, l2] st h = zrun zP sv C 132 1 [.val .null, l1, l2] (.null :: st) h := zx_go rfl rfl
theorem zs_132_1 : zrun zP sv C 132 1 [.val (.ref a), l1, l2] st h = zrun zP sv C 132 2 [.val (.ref a), l1, l2] (.ref a :: st) h := zx_go rfl rfl
theorem zs_132_1n : zrun zP sv C 132 1 [.val .null, l1, l2] st h = zrun zP sv C 132 2 [.val .null, l1, l2] (.null :: st) h := zx_go rfl rfl
theorem zs_132_2 : zrun zP sv C 132 2 [l0, l1, l2] (.ref a :: st) h = zfld (h.1 a) 5 1 (fun v => zrun zP sv C 132 5 [l0, l1, l2] (v :: st) h) := zx_getf rfl rfl
theorem zs_132_5 : zrun zP sv C 132 5 [l0, l1, l2] [v1, .ref b] h = zrc (h.1 b) 5 (zbk (C 135 [.ref b, v1] h) (fun v h' => zrun zP sv C 132 8 [l0, l1, l2] (v.toList ++ []) h') (fun E h' => some (.inr E, h'))) := zx_cv (x0 := 5) rfl rfl rfl rfl rfl ⟨Nat.le_of_ble_eq_true rfl, rfl⟩ (fun _ _ => rfl)
theorem zs_132_8 (hs : znw l2 = true) : zrun zP sv C 132 8 [l0, l1, l2] (.ref a :: st) h = zrun zP sv C 132 9 [l0, l1, .val (.ref a)] st h := zx_st hs rfl rfl rfl rfl rfl rfl
theorem zs_132_8n (hs : znw l2 = true) : zrun zP sv C 132 8 [l0, l1, l2] (.null :: st) h = zrun zP sv C 132 9 [l0, l1, .val (.null)] st h := zx_st hs rfl rfl rfl rfl rfl rfl
theorem zs_132_9 : zrun zP sv C 132 9 [l0, l1, .val (.ref a)] st h = zrun zP sv C 132 10 [l0, l1, .val (.ref a)] (.ref a :: st) h := zx_go rfl rfl
theorem zs_132_9n : zrun zP sv C 132 9 [l0, l1, .val .null] st h = zrun zP sv C 132 10 [l0, l1, .val .null] (.null :: st) h := zx_go rfl rfl
theorem zs_132_10 : zrun zP sv C 132 10 [l0, l1, l2] (.ref a :: st) h = zrun zP sv C 132 13 [l0, l1, l2] st h := zx_go rfl rfl
theorem zs_132_10n : zrun zP sv C 132 10 [l0, l1, l2] (.null :: st) h = zrun zP sv C 132 18 [l0, l1, l2] st h := zx_go rfl rfl
theorem zs_132_13 : zrun zP sv C 132 13 [l0, l1, .val (.ref a)] st h = zrun zP sv C 132 14 [l0, l1, .val (.ref a)] (.ref a :: st) h := zx_go rfl rfl
theorem zs_132_13n : zrun zP sv C 132 13 [l0, l1, .val .null] st h = zrun zP sv C 132 14 [l0, l1, .val .null] (.null :: st) h := zx_go rfl rfl
theorem zs_132_14 : zrun zP sv C 132 14 [l0, .val (.ref a), l2] st h = zrun zP sv C 132 15 [l0, .val (.ref a), l2] (.ref a :: st) h := zx_go rfl rfl
theorem zs_132_14n : zrun zP sv C 132 14 [l0, .val .null, l2] st h = zrun zP sv C 132 15 [l0, .val .null, l2] (.null :: st) h := zx_go rfl rfl
theorem zs_132_15 : zrun zP sv C 132 15 [l0, l1, l2] [v1, .ref b] h = zrc (h.1 b) 3 (zbk (C 180 [.ref b, v1] h) (fun v h' => zrun zP sv C 132 18 [l0, l1, l2] (v.toList ++ []) h') (fun E h' => some (.inr E, h'))) := zx_cv (x0 := 3) rfl rfl rfl rfl rfl ⟨Nat.le_of_ble_eq_true rfl, rfl⟩ (fun _ _ => rfl)
theorem zs_132_18 : zrun zP sv C 132 18 [.val (.ref a), l1, l2] st h = zrun zP sv C 132 19 [.val (.ref a), l1, l2] (.ref a :: st) h := zx_go rfl rfl
theorem zs_132_18n : zrun zP sv C 132 18 [.val .null, l1, l2] st h = zrun zP sv C 132 19 [.val .null, l1, l2] (.null :: st) h := zx_go rfl rfl
theorem zs_132_19 : zrun zP sv C 132 19 [.val (.ref a), l1, l2] st h = zrun zP sv C 132 20 [.val (.ref a), l1, l2] (.ref a :: st) h := zx_go rfl rfl
theorem zs_132_19n : zrun zP sv C 132 19 [.val .null, l1, l2] st h = zrun zP sv C 132 20 [.val .null, l1, l2] (.null :: st) h := zx_go rfl rfl
theorem zs_132_20 : zrun zP sv C 132 20 [l0, l1, l2] (.ref a :: st) h = zfld (h.1 a) 5 1 (fun v => zrun zP sv C 132 23 [l0, l1, l2] (v :: st) h) := zx_getf rfl rfl
theorem zs_132_23 : zrun zP sv C 132 23 [l0, l1, l2] st h = zrun zP sv C 132 24 [l0, l1, l2] (.int (nI 1) :: st) h := zx_go rfl rfl
theorem zs_132_24 : zrun zP sv C 132 24 [l0, l1, l2] (.int y :: .int x :: st) h = zrun zP sv C 132 25 [l0, l1, l2] (.int (x + y) :: st) h := zx_go rfl rfl
theorem zs_132_25 : zrun zP sv C 132 25 [l0, l1, l2] st h = zrun zP sv C 132 27 [l0, l1, l2] (.int (nI 8) :: st) h := zx_go rfl rfl
theorem zs_132_27 : zrun zP sv C 132 27 [l0, l1, l2] (.int (nI 8) :: .int x :: st) h = zrun zP sv C 132 28 [l0, l1, l2] (.int (x - x / (nI 8) * (nI 8)) :: st) h := zx_go rfl rfl
theorem zs_132_28 : zrun zP sv C 132 28 [l0, l1, l2] (.int x :: .ref a :: st) h = zpfd (h.1 a) 5 1 0 (.int x) (fun c => zrun zP sv C 132 31 [l0, l1, l2] st (zup h a c)) := zx_putf (x0 := 0) rfl rfl
theorem zs_132_31 : zrun zP sv C 132 31 [.val (.ref a), l1, l2] st h = zrun zP sv C 132 32 [.val (.ref a), l1, l2] (.ref a :: st) h := zx_go rfl rfl
theorem zs_132_31n : zrun zP sv C 132 31 [.val .null, l1, l2] st h = zrun zP sv C 132 32 [.val .null, l1, l2] (.null :: st) h := zx_go rfl rfl
theorem zs_132_32 : zrun zP sv C 132 32 [.val (.ref a), l1, l2] st h = zrun zP sv C 132 33 [.val (.ref a), l1, l2] (.ref a :: st) h := zx_go rfl rfl
theorem zs_132_32n : zrun zP sv C 132 32 [.val .null, l1, l2] st h = zrun zP sv C 132 33 [.val .null, l1, l2] (.null :: st) h := zx_go rfl rfl
theorem zs_132_33 : zrun zP sv C 132 33 [l0, l1, l2] (.ref a :: st) h = zfld (h.1 a) 5 2 (fun v => zrun zP sv C 132 36 [l0, l1, l2] (v :: st) h) := zx_getf rfl rfl
theorem zs_132_36 : zrun zP sv C 132 36 [l0, l1, l2] st h = zrun zP sv C 132 37 [l0, l1, l2] (.int (nI 1) :: st) h := zx_go rfl rfl
theorem zs_132_37 : zrun zP sv C 132 37 [l0, l1, l2] (.int y :: .int x :: st) h = zrun zP sv C 132 38 [l0, l1, l2] (.int (x + y) :: st) h := zx_go rfl rfl
theorem zs_132_38 : zrun zP sv C 132 38 [l0, l1, l2] st h = zrun zP sv C 132 40 [l0, l1, l2] (.int (nI 8) :: st) h := zx_go rfl rfl
theorem zs_132_40 : zrun zP sv C 132 40 [l0, l1, l2] [.int y, .int x, r0] h = zrun zP sv C 132 43 [l0, l1, l2] [.int (if y < x then y else x), r0] h := zx_go rfl rfl
theorem zs_132_43 : zrun zP sv C 132 43 [l0, l1, l2] (.int x :: .ref a :: st) h = zpfd (h.1 a) 5 2 0 (.int x) (fun c => zrun zP sv C 132 46 [l0, l1, l2] st (zup h a c)) := zx_putf (x0 := 0) rfl rfl
theorem zs_132_46 : zrun zP sv C 132 46 [l0, l1, l2] [] h = some (.inl none, h) := zx_end rfl rfl
theorem zs_133_0 : zrun zP sv C 133 0 [.val (.ref a), l1, l2] st h = zrun zP sv C 133 1 [.val (.ref a), l1, l2] (.ref a :: st) h := zx_go rfl rfl
theorem zs_133_0n : zrun zP sv C 133 0 [.val .null, l1, l2] st h = zrun zP sv C 133 1 [.val .null, l1, l2] (.null :: st) h := zx_go rfl rfl
theorem zs_133_1 : zrun zP sv C 133 1 [.val (.ref a), l1, l2] st h = zrun zP sv C 133 2 [.val (.ref a), l1, l2] (.ref a :: st) h := zx_go rfl rfl
theorem zs_133_1n : zrun zP sv C 133 1 [.val .null, l1, l2] st h = zrun zP sv C 133 2 [.val .null, l1, l2] (.null :: st) h := zx_go rfl rfl
theorem zs_133_2 : zrun zP sv C 133 2 [l0, l1, l2] (.ref a :: st) h = zfld (h.1 a) 5 1 (fun v => zrun zP sv C 133 5 [l0, l1, l2] (v :: st) h) := zx_getf rfl rfl
theorem zs_133_5 : zrun zP sv C 133 5 [l0, l1, l2] st h = zrun zP sv C 133 7 [l0, l1, l2] (.int (nI 8) :: st) h := zx_go rfl rfl
theorem zs_133_7 : zrun zP sv C 133 7 [l0, l1, l2] (.int y :: .int x :: st) h = zrun zP sv C 133 8 [l0, l1, l2] (.int (x + y) :: st) h := zx_go rfl rfl
theorem zs_133_8 : zrun zP sv C 133 8 [l0, l1, l2] st h = zrun zP sv C 133 9 [l0, l1, l2] (.int (nI 1) :: st) h := zx_go rfl rfl
theorem zs_133_9 : zrun zP sv C 133 9 [l0, l1, l2] (.int y :: .int x :: st) h = zrun zP sv C 133 10 [l0, l1, l2] (.int (x - y) :: st) h := zx_go rfl rfl
theorem zs_133_10 : zrun zP sv C 133 10 [l0, l1, l2] st h = zrun zP sv C 133 12 [l0, l1, l2] (.int (nI 8) :: st) h := zx_go rfl rfl
theorem zs_133_12 : zrun zP sv C 133 12 [l0, l1, l2] (.int (nI 8) :: .int x :: st) h = zrun zP sv C 133 13 [l0, l1, l2] (.int (x - x / (nI 8) * (nI 8)) :: st) h := zx_go rfl rfl
theorem zs_133_13 : zrun zP sv C 133 13 [l0, l1, l2] (.int x :: .ref a :: st) h = zpfd (h.1 a) 5 1 0 (.int x) (fun c => zrun zP sv C 133 16 [l0, l1, l2] st (zup h a c)) := zx_putf (x0 := 0) rfl rfl
theorem zs_133_16 : zrun zP sv C 133 16 [.val (.ref a), l1, l2] st h = zrun zP sv C 133 17 [.val (.ref a), l1, l2] (.ref a :: st) h := zx_go rfl rfl
theorem zs_133_16n : zrun zP sv C 133 16 [.val .null, l1, l2] st h = zrun zP sv C 133 17 [.val .null, l1, l2] (.null :: st) h := zx_go rfl rfl
theorem zs_133_17 : zrun zP sv C 133 17 [.val (.ref a), l1, l2] st h = zrun zP sv C 133 18 [.val (.ref a), l1, l2] (.ref a :: st) h := zx_go rfl rfl
theorem zs_133_17n : zrun zP sv C 133 17 [.val .null, l1, l2] st h = zrun zP sv C 133 18 [.val .null, l1, l2] (.null :: st) h := zx_go rfl rfl
theorem zs_133_18 : zrun zP sv C 133 18 [l0, l1, l2] (.ref a :: st) h = zfld (h.1 a) 5 2 (fun v => zrun zP sv C 133 21 [l0, l1, l2] (v :: st) h) := zx_getf rfl rfl
theorem zs_133_21 : zrun zP sv C 133 21 [l0, l1, l2] st h = zrun zP sv C 133 22 [l0, l1, l2] (.int (nI 1) :: st) h := zx_go rfl rfl
theorem zs_133_22 : zrun zP sv C 133 22 [l0, l1, l2] (.int y :: .int x :: st) h = zrun zP sv C 133 23 [l0, l1, l2] (.int (x - y) :: st) h := zx_go rfl rfl
theorem zs_133_23 : zrun zP sv C 133 23 [l0, l1, l2] st h = zrun zP sv C 133 24 [l0, l1, l2] (.int 0 :: st) h := zx_go rfl rfl
theorem zs_133_24 : zrun zP sv C 133 24 [l0, l1, l2] [.int y, .int x, r0] h = zrun zP sv C 133 27 [l0, l1, l2] [.int (if x < y then y else x), r0] h := zx_go rfl rfl
theorem zs_133_27 : zrun zP sv C 133 27 [l0, l1, l2] (.int x :: .ref a :: st) h = zpfd (h.1 a) 5 2 0 (.int x) (fun c => zrun zP sv C 133 30 [l0, l1, l2] st (zup h a c)) := zx_putf (x0 := 0) rfl rfl
theorem zs_133_30 : zrun zP sv C 133 30 [.val (.ref a), l1, l2] st h = zrun zP sv C 133 31 [.val (.ref a), l1, l2] (.ref a :: st) h := zx_go rfl rfl
theorem zs_133_30n : zrun zP sv C 133 30 [.val .null, l1, l2] st h = zrun zP sv C 133 31 [.val .null, l1, l2] (.null :: st) h := zx_go rfl rfl
theorem zs_133_31 : zrun zP sv C 133 31 [.val (.ref a), l1, l2] st h = zrun zP sv C 133 32 [.val (.ref a), l1, l2] (.ref a :: st) h := zx_go rfl rfl
theorem zs_133_31n : zrun zP sv C 133 31 [.val .null, l1, l2] st h = zrun zP sv C 133 32 [.val .null, l1, l2] (.null :: st) h := zx_go rfl rfl
theorem zs_133_32 : zrun zP sv C 133 32 [l0, l1, l2] (.ref a :: st) h = zfld (h.1 a) 5 1 (fun v => zrun zP sv C 133 35 [l0, l1, l2] (v :: st) h) := zx_getf rfl rfl
theorem zs_133_35 : zrun zP sv C 133 35 [l0, l1, l2] [v1, .ref b] h = zrc (h.1 b) 5 (zbk (C 135 [.ref b, v1] h) (fun v h' => zrun zP sv C 133 38 [l0, l1, l2] (v.toList ++ []) h') (fun E h' => some (.inr E, h'))) := zx_cv (x0 := 5) rfl rfl rfl rfl rfl ⟨Nat.le_of_ble_eq_true rfl, rfl⟩ (fun _ _ => rfl)
theorem zs_133_38 (hs : znw l2 = true) : zrun zP sv C 133 38 [l0, l1, l2] (.ref a :: st) h = zrun zP sv C 133 39 [l0, l1, .val (.ref a)] st h := zx_st hs rfl rfl rfl rfl rfl rfl
theorem zs_133_38n (hs : znw l2 = true) : zrun zP sv C 133 38 [l0, l1, l2] (.null :: st) h = zrun zP sv C 133 39 [l0, l1, .val (.null)] st h := zx_st hs rfl rfl rfl rfl rfl rfl
theorem zs_133_39 : zrun zP sv C 133 39 [l0, l1, .val (.ref a)] st h = zrun zP sv C 133 40 [l0, l1, .val (.ref a)] (.ref a :: st) h := zx_go rfl rfl
theorem zs_133_39n : zrun zP sv C 133 39 [l0, l1, .val .null] st h = zrun zP sv C 133 40 [l0, l1, .val .null] (.null :: st) h := zx_go rfl rfl
theorem zs_133_40 : zrun zP sv C 133 40 [l0, l1, l2] (.ref a :: st) h = zrun zP sv C 133 43 [l0, l1, l2] st h := zx_go rfl rfl
theorem zs_133_40n : zrun zP sv C 133 40 [l0, l1, l2] (.null :: st) h = zrun zP sv C 133 48 [l0, l1, l2] st h := zx_go rfl rfl
theorem zs_133_43 : zrun zP sv C 133 43 [l0, .val (.ref a), l2] st h = zrun zP sv C 133 44 [l0, .val (.ref a), l2] (.ref a :: st) h := zx_go rfl rfl
theorem zs_133_43n : zrun zP sv C 133 43 [l0, .val .null, l2] st h = zrun zP sv C 133 44 [l0, .val .null, l2] (.null :: st) h := zx_go rfl rfl
theorem zs_133_44 : zrun zP sv C 133 44 [l0, l1, .val (.ref a)] st h = zrun zP sv C 133 45 [l0, l1, .val (.ref a)] (.ref a :: st) h := zx_go rfl rfl
theorem zs_133_44n : zrun zP sv C 133 44 [l0, l1, .val .null] st h = zrun zP sv C 133 45 [l0, l1, .val .null] (.null :: st) h := zx_go rfl rfl
theorem zs_133_45 : zrun zP sv C 133 45 [l0, l1, l2] [v1, .ref b] h = zrc (h.1 b) 3 (zbk (C 180 [.ref b, v1] h) (fun v h' => zrun zP sv C 133 48 [l0, l1, l2] (v.toList ++ []) h') (fun E h' => some (.inr E, h'))) := zx_cv (x0 := 3) rfl rfl rfl rfl rfl ⟨Nat.le_of_ble_eq_true rfl, rfl⟩ (fun _ _ => rfl)
theorem zs_133_48 : zrun zP sv C 133 48 [l0, l1, l2] [] h = some (.inl none, h) := zx_end rfl rfl
theorem zs_134_0 : zrun zP sv C 134 0 [.val (.ref a)] st h = zrun zP sv C 134 1 [.val (.ref a)] (.ref a :: st) h := zx_go rfl rfl
theorem zs_134_0n : zrun zP sv C 134 0 [.val .null] st h = zrun zP sv C 134 1 [.val .null] (.null :: st) h := zx_go rfl rfl
theorem zs_134_1 : zrun zP sv C 134 1 [l0] st h = zrun zP sv C 134 2 [l0] (.int 0 :: st) h := zx_go rfl rfl
theorem zs_134_2 : zrun zP sv C 134 2 [l0] (.int x :: .ref a :: st) h = zpfd (h.1 a) 5 2 0 (.int x) (fun c => zrun zP sv C 134 5 [l0] st (zup h a c)) := zx_putf (x0 := 0) rfl rfl
theorem zs_134_5 : zrun zP sv C 134 5 [l0] [] h = some (.inl none, h) := zx_end rfl rfl
theorem zs_135_0 : zrun zP sv C 135 0 [l0, .val (.int x)] st h = zrun zP sv C 135 1 [l0, .val (.int x)] (.int x :: st) h := zx_go rfl rfl
theorem zs_135_1 : zrun zP sv C 135 1 [l0, l1] (.int x :: st) h = if x < 0 then zrun zP sv C 135 22 [l0, l1] st h else zrun zP sv C 135 4 [l0, l1] st h := (zx_if rfl rfl).trans zc2_if
theorem zs_135_4 : zrun zP sv C 135 4 [l0, .val (.int x)] st h = zrun zP sv C 135 5 [l0, .val (.int x)] (.int x :: st) h := zx_go rfl rfl
theorem zs_135_5 : zrun zP sv C 135 5 [.val (.ref a), l1] st h = zrun zP sv C 135 6 [.val (.ref a), l1] (.ref a :: st) h := zx_go rfl rfl
theorem zs_135_5n : zrun zP sv C 135 5 [.val .null, l1] st h = zrun zP sv C 135 6 [.val .null, l1] (.null :: st) h := zx_go rfl rfl
theorem zs_135_6 : zrun zP sv C 135 6 [l0, l1] (.ref a :: st) h = zfld (h.1 a) 5 0 (fun v => zrun zP sv C 135 9 [l0, l1] (v :: st) h) := zx_getf rfl rfl
theorem zs_135_9 : zrun zP sv C 135 9 [l0, l1] (.ref a :: st) h = zaln (h.1 a) (fun v => zrun zP sv C 135 10 [l0, l1] (.int v :: st) h) := zx_aln rfl rfl
theorem zs_135_10 : zrun zP sv C 135 10 [l0, l1] (.int y :: .int x :: st) h = if x < y then zrun zP sv C 135 13 [l0, l1] st h else zrun zP sv C 135 22 [l0, l1] st h := (zx_ic rfl rfl).trans zc3_if
theorem zs_135_13 : zrun zP sv C 135 13 [.val (.ref a), l1] st h = zrun zP sv C 135 14 [.val (.ref a), l1] (.ref a :: st) h := zx_go rfl rfl
theorem zs_135_13n : zrun zP sv C 135 13 [.val .null, l1] st h = zrun zP sv C 135 14 [.val .null, l1] (.null :: st) h := zx_go rfl rfl
theorem zs_135_14 : zrun zP sv C 135 14 [l0, l1] (.ref a :: st) h = zfld (h.1 a) 5 0 (fun v => zrun zP sv C 135 17 [l0, l1] (v :: st) h) := zx_getf rfl rfl
theorem zs_135_17 : zrun zP sv C 135 17 [l0, .val (.int x)] st h = zrun zP sv C 135 18 [l0, .val (.int x)] (.int x :: st) h := zx_go rfl rfl
theorem zs_135_18 : zrun zP sv C 135 18 [l0, l1] (.int x :: .ref a :: st) h = zael (h.1 a) 26 x (fun v => zrun zP sv C 135 19 [l0, l1] (v :: st) h) := zx_ald rfl rfl
theorem zs_135_19 : zrun zP sv C 135 19 [l0, l1] st h = zrun zP sv C 135 23 [l0, l1] st h := zx_go rfl rfl
theorem zs_135_22 : zrun zP sv C 135 22 [l0, l1] st h = zrun zP sv C 135 23 [l0, l1] (.null :: st) h := zx_go rfl rfl
theorem zs_135_23 : zrun zP sv C 135 23 [l0, l1] [.ref a] h = some (.inl (some (.ref a)), h) := zx_end rfl rfl
theorem zs_135_23n : zrun zP sv C 135 23 [l0, l1] [.null] h = some (.inl (some (.null)), h) := zx_end rfl rfl
theorem zs_136_0 : zrun zP sv C 136 0 [.val (.ref a)] st h = zrun zP sv C 136 1 [.val (.ref a)] (.ref a :: st) h := zx_go rfl rfl
theorem zs_136_1 : zrun zP sv C 136 1 [l0] [.ref a] h = zrun zP sv C 136 4 [l0] [] h := zx_go rfl rfl
theorem zs_136_4 : zrun zP sv C 136 4 [.val (.ref a)] st h = zrun zP sv C 136 5 [.val (.ref a)] (.ref a :: st) h := zx_go rfl rfl
theorem zs_136_5 : zrun zP sv C 136 5 [l0] st h = zrun zP sv C 136 7 [l0] (.int (nI 60) :: st) h := zx_go rfl rfl
theorem zs_136_7 : zrun zP sv C 136 7 [l0] (.int x :: st) h = znwa x (fun q => zrun zP sv C 136 9 [l0] (.ref h.2.1 :: st) (znew h (21, List.replicate q (.int 0)) q)) := zx_nwa rfl rfl
theorem zs_136_9 : zrun zP sv C 136 9 [l0] (.ref b :: .ref a :: st) h = zpfd (h.1 a) 8 0 4 (.ref b) (fun c => zrun zP sv C 136 12 [l0] st (zup h a c)) := zx_putf (x0 := 4) rfl rfl
theorem zs_136_12 : zrun zP sv C 136 12 [.val (.ref a)] st h = zrun zP sv C 136 13 [.val (.ref a)] (.ref a :: st) h := zx_go rfl rfl
theorem zs_136_13 : zrun zP sv C 136 13 [l0] st h = zrun zP sv C 136 14 [l0] (.int 0 :: st) h := zx_go rfl rfl
theorem zs_136_14 : zrun zP sv C 136 14 [l0] (.int x :: .ref a :: st) h = zpfd (h.1 a) 8 1 0 (.int x) (fun c => zrun zP sv C 136 17 [l0] st (zup h a c)) := zx_putf (x0 := 0) rfl rfl
theorem zs_136_17 : zrun zP sv C 136 17 [l0] [] h = some (.inl none, h) := zx_end rfl rfl
theorem zs_137_0 : zrun zP sv C 137 0 [.val (.ref a)] st h = zrun zP sv C 137 1 [.val (.ref a)] (.ref a :: st) h := zx_go rfl rfl
theorem zs_137_1 : zrun zP sv C 137 1 [l0] (.ref a :: st) h = zfld (h.1 a) 8 1 (fun v => zrun zP sv C 137 4 [l0] (v :: st) h) := zx_getf rfl rfl
theorem zs_137_4 : zrun zP sv C 137 4 [.val (.ref a)] st h = zrun zP sv C 137 5 [.val (.ref a)] (.ref a :: st) h := zx_go rfl rfl
theorem zs_137_5 : zrun zP sv C 137 5 [l0] (.ref a :: st) h = zfld (h.1 a) 8 0 (fun v => zrun zP sv C 137 8 [l0] (v :: st) h) := zx_getf rfl rfl
theorem zs_137_8 : zrun zP sv C 137 8 [l0] (.ref a :: st) h = zaln (h.1 a) (fun v => zrun zP sv C 137 9 [l0] (.int v :: st) h) := zx_aln rfl rfl
theorem zs_137_9 : zrun zP sv C 137 9 [l0] (.int y :: .int x :: st) h = if x < y then zrun zP sv C 137 16 [l0] st h else zrun zP sv C 137 12 [l0] st h := (zx_ic rfl rfl).trans zc2_if
theorem zs_137_12 : zrun zP sv C 137 12 [l0] st h = zrun zP sv C 137 13 [l0] (.int (nI 1) :: st) h := zx_go rfl rfl
theorem zs_137_13 : zrun zP sv C 137 13 [l0] st h = zrun zP sv C 137 17 [l0] st h := zx_go rfl rfl
theorem zs_137_16 : zrun zP sv C 137 16 [l0] st h = zrun zP sv C 137 17 [l0] (.int 0 :: st) h := zx_go rfl rfl
theorem zs_137_17 : zrun zP sv C 137 17 [l0] [.int x] h = zgd (zty 5 (.int x)) (some (.inl (some (.int x)), h)) := zx_rt rfl
theorem zs_138_0 : zrun zP sv C 138 0 [.val (.ref a)] st h = zrun zP sv C 138 1 [.val (.ref a)] (.ref a :: st) h := zx_go rfl rfl
theorem zs_138_1 : zrun zP sv C 138 1 [l0] (.ref a :: st) h = zfld (h.1 a) 8 1 (fun v => zrun zP sv C 138 4 [l0] (v :: st) h) := zx_getf rfl rfl
theorem zs_138_4 : zrun zP sv C 138 4 [l0] [.int x] h = some (.inl (some (.int x)), h) := zx_end rfl rfl
theorem zs_139_0 : zrun zP sv C 139 0 [.val (.ref a), l1] st h = zrun zP sv C 139 1 [.val (.ref a), l1] (.ref a :: st) h := zx_go rfl rfl
theorem zs_139_1 : zrun zP sv C 139 1 [l0, l1] (.ref a :: st) h = zfld (h.1 a) 8 1 (fun v => zrun zP sv C 139 4 [l0, l1] (v :: st) h) := zx_getf rfl rfl
theorem zs_139_4 : zrun zP sv C 139 4 [l0, l1] (.int x :: st) h = if x < 0 then zrun zP sv C 139 39 [l0, l1] st h else zrun zP sv C 139 7 [l0, l1] st h := (zx_if rfl rfl).trans zc2_if
theorem zs_139_7 : zrun zP sv C 139 7 [.val (.ref a), l1] st h = zrun zP sv C 139 8 [.val (.ref a), l1] (.ref a :: st) h := zx_go rfl rfl
theorem zs_139_8 : zrun zP sv C 139 8 [l0, l1] (.ref a :: st) h = zfld (h.1 a) 8 1 (fun v => zrun zP sv C 139 11 [l0, l1] (v :: st) h) := zx_getf rfl rfl
theorem zs_139_11 : zrun zP sv C 139 11 [.val (.ref a), l1] st h = zrun zP sv C 139 12 [.val (.ref a), l1] (.ref a :: st) h := zx_go rfl rfl
theorem zs_139_12 : zrun zP sv C 139 12 [l0, l1] (.ref a :: st) h = zfld (h.1 a) 8 0 (fun v => zrun zP sv C 139 15 [l0, l1] (v :: st) h) := zx_getf rfl rfl
theorem zs_139_15 : zrun zP sv C 139 15 [l0, l1] (.ref a :: st) h = zaln (h.1 a) (fun v => zrun zP sv C 139 16 [l0, l1] (.int v :: st) h) := zx_aln rfl rfl
theorem zs_139_16 : zrun zP sv C 139 16 [l0, l1] (.int y :: .int x :: st) h = if x < y then zrun zP sv C 139 19 [l0, l1] st h else zrun zP sv C 139 39 [l0, l1] st h := (zx_ic rfl rfl).trans zc3_if
theorem zs_139_19 : zrun zP sv C 139 19 [.val (.ref a), l1] st h = zrun zP sv C 139 20 [.val (.ref a), l1] (.ref a :: st) h := zx_go rfl rfl
theorem zs_139_20 : zrun zP sv C 139 20 [l0, l1] (.ref a :: st) h = zfld (h.1 a) 8 0 (fun v => zrun zP sv C 139 23 [l0, l1] (v :: st) h) := zx_getf rfl rfl
theorem zs_139_23 : zrun zP sv C 139 23 [.val (.ref a), l1] st h = zrun zP sv C 139 24 [.val (.ref a), l1] (.ref a :: st) h := zx_go rfl rfl
theorem zs_139_24 : zrun zP sv C 139 24 [l0, l1] (.ref a :: st) h = zfld (h.1 a) 8 1 (fun v => zrun zP sv C 139 27 [l0, l1] (v :: st) h) := zx_getf rfl rfl
theorem zs_139_27 : zrun zP sv C 139 27 [l0, .val (.int x)] st h = zrun zP sv C 139 28 [l0, .val (.int x)] (.int x :: st) h := zx_go rfl rfl
theorem zs_139_28 : zrun zP sv C 139 28 [l0, l1] (.int y :: .int x :: .ref a :: st) h = zaset (h.1 a) 21 x (.int y) (fun c => zrun zP sv C 139 29 [l0, l1] st (zup h a c)) := zx_ast rfl rfl
theorem zs_139_29 : zrun zP sv C 139 29 [.val (.ref a), l1] st h = zrun zP sv C 139 30 [.val (.ref a), l1] (.ref a :: st) h := zx_go rfl rfl
theorem zs_139_30 : zrun zP sv C 139 30 [l0, l1] (.ref a :: st) h = zrun zP sv C 139 31 [l0, l1] (.ref a :: .ref a :: st) h := zx_go rfl rfl
theorem zs_139_31 : zrun zP sv C 139 31 [l0, l1] (.ref a :: st) h = zfld (h.1 a) 8 1 (fun v => zrun zP sv C 139 34 [l0, l1] (v :: st) h) := zx_getf rfl rfl
theorem zs_139_34 : zrun zP sv C 139 34 [l0, l1] st h = zrun zP sv C 139 35 [l0, l1] (.int (nI 1) :: st) h := zx_go rfl rfl
theorem zs_139_35 : zrun zP sv C 139 35 [l0, l1] (.int y :: .int x :: st) h = zrun zP sv C 139 36 [l0, l1] (.int (x + y) :: st) h := zx_go rfl rfl
theorem zs_139_36 : zrun zP sv C 139 36 [l0, l1] (.int x :: .ref a :: st) h = zpfd (h.1 a) 8 1 0 (.int x) (fun c => zrun zP sv C 139 39 [l0, l1] st (zup h a c)) := zx_putf (x0 := 0) rfl rfl
theorem zs_139_39 : zrun zP sv C 139 39 [l0, l1] [] h = some (.inl none, h) := zx_end rfl rfl
theorem zs_140_0 : zrun zP sv C 140 0 [.val (.ref a)] st h = zrun zP sv C 140 1 [.val (.ref a)] (.ref a :: st) h := zx_go rfl rfl
theorem zs_140_1 : zrun zP sv C 140 1 [l0] st h = zrun zP sv C 140 2 [l0] (.int 0 :: st) h := zx_go rfl rfl
theorem zs_140_2 : zrun zP sv C 140 2 [l0] (.int x :: .ref a :: st) h = zpfd (h.1 a) 8 1 0 (.int x) (fun c => zrun zP sv C 140 5 [l0] st (zup h a c)) := zx_putf (x0 := 0) rfl rfl
theorem zs_140_5 : zrun zP sv C 140 5 [l0] [] h = some (.inl none, h) := zx_end rfl rfl
theorem zs_141_0 : zrun zP sv C 141 0 [l0, .val (.int x)] st h = zrun zP sv C 141 1 [l0, .val (.int x)] (.int x :: st) h := zx_go rfl rfl
theorem zs_141_1 : zrun zP sv C 141 1 [l0, l1] (.int x :: st) h = if x < 0 then zrun zP sv C 141 30 [l0, l1] st h else zrun zP sv C 141 4 [l0, l1] st h := (zx_if rfl rfl).trans zc2_if
theorem zs_141_4 : zrun zP sv C 141 4 [l0, .val (.int x)] st h = zrun zP sv C 141 5 [l0, .val (.int x)] (.int x :: st) h := zx_go rfl rfl
theorem zs_141_5 : zrun zP sv C 141 5 [.val (.ref a), l1] st h = zrun zP sv C 141 6 [.val (.ref a), l1] (.ref a :: st) h := zx_go rfl rfl
theorem zs_141_6 : zrun zP sv C 141 6 [l0, l1] (.ref a :: st) h = zfld (h.1 a) 8 1 (fun v => zrun zP sv C 141 9 [l0, l1] (v :: st) h) := zx_getf rfl rfl
theorem zs_141_9 : zrun zP sv C 141 9 [l0, l1] (.int y :: .int x :: st) h = if x < y then zrun zP sv C 141 12 [l0, l1] st h else zrun zP sv C 141 30 [l0, l1] st h := (zx_ic rfl rfl).trans zc3_if
theorem zs_141_12 : zrun zP sv C 141 12 [l0, .val (.int x)] st h = zrun zP sv C 141 13 [l0, .val (.int x)] (.int x :: st) h := zx_go rfl rfl
theorem zs_141_13 : zrun zP sv C 141 13 [.val (.ref a), l1] st h = zrun zP sv C 141 14 [.val (.ref a), l1] (.ref a :: st) h := zx_go rfl rfl
theorem zs_141_14 : zrun zP sv C 141 14 [l0, l1] (.ref a :: st) h = zfld (h.1 a) 8 0 (fun v => zrun zP sv C 141 17 [l0, l1] (v :: st) h) := zx_getf rfl rfl
theorem zs_141_17 : zrun zP sv C 141 17 [l0, l1] (.ref a :: st) h = zaln (h.1 a) (fun v => zrun zP sv C 141 18 [l0, l1] (.int v :: st) h) := zx_aln rfl rfl
theorem zs_141_18 : zrun zP sv C 141 18 [l0, l1] (.int y :: .int x :: st) h = if x < y then zrun zP sv C 141 21 [l0, l1] st h else zrun zP sv C 141 30 [l0, l1] st h := (zx_ic rfl rfl).trans zc3_if
theorem zs_141_21 : zrun zP sv C 141 21 [.val (.ref a), l1] st h = zrun zP sv C 141 22 [.val (.ref a), l1] (.ref a :: st) h := zx_go rfl rfl
theorem zs_141_22 : zrun zP sv C 141 22 [l0, l1] (.ref a :: st) h = zfld (h.1 a) 8 0 (fun v => zrun zP sv C 141 25 [l0, l1] (v :: st) h) := zx_getf rfl rfl
theorem zs_141_25 : zrun zP sv C 141 25 [l0, .val (.int x)] st h = zrun zP sv C 141 26 [l0, .val (.int x)] (.int x :: st) h := zx_go rfl rfl
theorem zs_141_26 : zrun zP sv C 141 26 [l0, l1] (.int x :: .ref a :: st) h = zael (h.1 a) 21 x (fun v => zrun zP sv C 141 27 [l0, l1] (v :: st) h) := zx_ald rfl rfl
theorem zs_141_27 : zrun zP sv C 141 27 [l0, l1] st h = zrun zP sv C 141 32 [l0, l1] st h := zx_go rfl rfl
theorem zs_141_30 : zrun zP sv C 141 30 [l0, l1] st h = zrun zP sv C 141 32 [l0, l1] (.int (nI 32) :: st) h := zx_go rfl rfl
theorem zs_141_32 : zrun zP sv C 141 32 [l0, l1] [.int x] h = zgd (zty 7 (.int x)) (some (.inl (some (.int x)), h)) := zx_rt rfl
theorem zs_142_0 : zrun zP sv C 142 0 [.val (.ref a)] st h = zrun zP sv C 142 1 [.val (.ref a)] (.ref a :: st) h := zx_go rfl rfl
theorem zs_142_1 : zrun zP sv C 142 1 [l0] [.ref a] h = zrun zP sv C 142 4 [l0] [] h := zx_go rfl rfl
theorem zs_142_4 : zrun zP sv C 142 4 [.val (.ref a)] st h = zrun zP sv C 142 5 [.val (.ref a)] (.ref a :: st) h := zx_go rfl rfl
theorem zs_142_5 : zrun zP sv C 142 5 [l0] st h = zrun zP sv C 142 8 [l0] (.ref h.2.1 :: st) (znew h (6, [.null, .null, .null, .null, .int 0, .int 0]) 6) := zx_go rfl rfl
theorem zs_142_8 : zrun zP sv C 142 8 [l0] (.ref a :: st) h = zrun zP sv C 142 9 [l0] (.ref a :: .ref a :: st) h := zx_go rfl rfl
theorem zs_142_9 : zrun zP sv C 142 9 [l0] st h = zrun zP sv C 142 11 [l0] (.int (nI 62) :: st) h := zx_go rfl rfl
theorem zs_142_11 : zrun zP sv C 142 11 [l0] [v1, .ref b, r0, r1] h = zrc (h.1 b) 6 (zbk (C 181 [.ref b, v1] h) (fun v h' => zrun zP sv C 142 14 [l0] (v.toList ++ [r0, r1]) h') (fun E h' => some (.inr E, h'))) := zx_cv (x0 := 6) rfl rfl rfl rfl rfl ⟨Nat.le_of_ble_eq_true rfl, rfl⟩ (fun _ _ => rfl)
theorem zs_142_14 : zrun zP sv C 142 14 [l0] (.ref b :: .ref a :: st) h = zpfd (h.1 a) 11 0 4 (.ref b) (fun c => zrun zP sv C 142 17 [l0] st (zup h a c)) := zx_putf (x0 := 4) rfl rfl
theorem zs_142_17 : zrun zP sv C 142 17 [.val (.ref a)] st h = zrun zP sv C 142 18 [.val (.ref a)] (.ref a :: st) h := zx_go rfl rfl
theorem zs_142_18 : zrun zP sv C 142 18 [l0] st h = zrun zP sv C 142 21 [l0] (.ref h.2.1 :: st) (znew h (4, [.null]) 1) := zx_go rfl rfl
theorem zs_142_21 : zrun zP sv C 142 21 [l0] (.ref a :: st) h = zrun zP sv C 142 22 [l0] (.ref a :: .ref a :: st) h := zx_go rfl rfl
theorem zs_142_22 : zrun zP sv C 142 22 [l0] st h = zrun zP sv C 142 24 [l0] (.int (nI 31) :: st) h := zx_go rfl rfl
theorem zs_142_24 : zrun zP sv C 142 24 [l0] [v1, .ref b, r0, r1] h = zrc (h.1 b) 4 (zbk (C 164 [.ref b, v1] h) (fun v h' => zrun zP sv C 142 27 [l0] (v.toList ++ [r0, r1]) h') (fun E h' => some (.inr E, h'))) := zx_cv (x0 := 4) rfl rfl rfl rfl rfl ⟨Nat.le_of_ble_eq_true rfl, rfl⟩ (fun _ _ => rfl)
theorem zs_142_27 : zrun zP sv C 142 27 [l0] (.ref b :: .ref a :: st) h = zpfd (h.1 a) 11 1 4 (.ref b) (fun c => zrun zP sv C 142 30 [l0] st (zup h a c)) := zx_putf (x0 := 4) rfl rfl
theorem zs_142_30 : zrun zP sv C 142 30 [l0] [] h = some (.inl none, h) := zx_end rfl rfl
theorem zs_143_0 : zrun zP sv C 143 0 [.val (.ref a)] st h = zrun zP sv C 143 1 [.val (.ref a)] (.ref a :: st) h := zx_go rfl rfl
theorem zs_143_1 : zrun zP sv C 143 1 [l0] (.ref a :: st) h = zfld (h.1 a) 11 0 (fun v => zrun zP sv C 143 4 [l0] (v :: st) h) := zx_getf rfl rfl
theorem zs_143_4 : zrun zP sv C 143 4 [l0] [.ref b] h = zrc (h.1 b) 6 (zbk (C 190 [.ref b] h) (fun v h' => zrun zP sv C 143 7 [l0] (v.toList ++ []) h') (fun E h' => some (.inr E, h'))) := zx_cv (x0 := 6) rfl rfl rfl rfl rfl ⟨Nat.le_of_ble_eq_true rfl, rfl⟩ (fun _ _ => rfl)
theorem zs_143_7 : zrun zP sv C 143 7 [l0] [] h = some (.inl none, h) := zx_end rfl rfl
theorem zs_144_0 : zrun zP sv C 144 0 [.val (.ref a)] st h = zrun zP sv C 144 1 [.val (.ref a)] (.ref a :: st) h := zx_go rfl rfl
theorem zs_144_1 : zrun zP sv C 144 1 [l0] (.ref a :: st) h = zfld (h.1 a) 11 0 (fun v => zrun zP sv C 144 4 [l0] (v :: st) h) := zx_getf rfl rfl
theorem zs_144_4 : zrun zP sv C 144 4 [l0] [.ref b] h = zrc (h.1 b) 6 (zbk (C 182 [.ref b] h) (fun v h' => zrun zP sv C 144 7 [l0] (v.toList ++ []) h') (fun E h' => some (.inr E, h'))) := zx_cv (x0 := 6) rfl rfl rfl rfl rfl ⟨Nat.le_of_ble_eq_true rfl, rfl⟩ (fun _ _ => rfl)
theorem zs_144_7 : zrun zP sv C 144 7 [l0] [.int x] h = some (.inl (some (.int x)), h) := zx_end rfl rfl
theorem zs_145_0 : zrun zP sv C 145 0 [l0, l1, l2] st h = zrun zP sv C 145 1 [l0, l1, l2] (.int 0 :: st) h := zx_go rfl rfl
theorem zs_145_1 (hs : znw l2 = true) : zrun zP sv C 145 1 [l0, l1, l2] (.int x :: st) h = zrun zP sv C 145 2 [l0, l1, .val (.int x)] st h := zx_st hs rfl rfl rfl rfl rfl rfl
theorem zs_145_2 : zrun zP sv C 145 2 [l0, l1, .val (.int x)] st h = zrun zP sv C 145 3 [l0, l1, .val (.int x)] (.int x :: st) h := zx_go rfl rfl
theorem zs_145_3 : zrun zP sv C 145 3 [l0, .val (.ref a), l2] st h = zrun zP sv C 145 4 [l0, .val (.ref a), l2] (.ref a :: st) h := zx_go rfl rfl
theorem zs_145_4 : zrun zP sv C 145 4 [l0, l1, l2] [.ref b, r0] h = zrc (h.1 b) 6 (zbk (C 182 [.ref b] h) (fun v h' => zrun zP sv C 145 7 [l0, l1, l2] (v.toList ++ [r0]) h') (fun E h' => some (.inr E, h'))) := zx_cv (x0 := 6) rfl rfl rfl rfl rfl ⟨Nat.le_of_ble_eq_true rfl, rfl⟩ (fun _ _ => rfl)
theorem zs_145_7 : zrun zP sv C 145 7 [l0, l1, l2] (.int y :: .int x :: st) h = if x < y then zrun zP sv C 145 10 [l0, l1, l2] st h else zrun zP sv C 145 56 [l0, l1, l2] st h := (zx_ic rfl rfl).trans zc3_if
theorem zs_145_10 : zrun zP sv C 145 10 [.val (.ref a), l1, l2] st h = zrun zP sv C 145 11 [.val (.ref a), l1, l2] (.ref a :: st) h := zx_go rfl rfl
theorem zs_145_11 : zrun zP sv C 145 11 [l0, l1, l2] (.ref a :: st) h = zfld (h.1 a) 11 1 (fun v => zrun zP sv C 145 14 [l0, l1, l2] (v :: st) h) := zx_getf rfl rfl
theorem zs_145_14 : zrun zP sv C 145 14 [l0, l1, .val (.int x)] st h = zrun zP sv C 145 15 [l0, l1, .val (.int x)] (.int x :: st) h := zx_go rfl rfl
theorem zs_145_15 : zrun zP sv C 145 15 [.val (.ref a), l1, l2] st h = zrun zP sv C 145 16 [.val (.ref a), l1, l2] (.ref a :: st) h := zx_go rfl rfl
theorem zs_145_16 : zrun zP sv C 145 16 [l0, .val (.ref a), l2] st h = zrun zP sv C 145 17 [l0, .val (.ref a), l2] (.ref a :: st) h := zx_go rfl rfl
theorem zs_145_17 : zrun zP sv C 145 17 [l0, l1, .val (.int x)] st h = zrun zP sv C 145 18 [l0, l1, .val (.int x)] (.int x :: st) h := zx_go rfl rfl
theorem zs_145_18 : zrun zP sv C 145 18 [l0, l1, l2] [v1, .ref b, r0, r1, r2] h = zrc (h.1 b) 6 (zbk (C 184 [.ref b, v1] h) (fun v h' => zrun zP sv C 145 21 [l0, l1, l2] (v.toList ++ [r0, r1, r2]) h') (fun E h' => some (.inr E, h'))) := zx_cv (x0 := 6) rfl rfl rfl rfl rfl ⟨Nat.le_of_ble_eq_true rfl, rfl⟩ (fun _ _ => rfl)
theorem zs_145_21 : zrun zP sv C 145 21 [l0, .val (.ref a), l2] st h = zrun zP sv C 145 22 [l0, .val (.ref a), l2] (.ref a :: st) h := zx_go rfl rfl
theorem zs_145_22 : zrun zP sv C 145 22 [l0, l1, .val (.int x)] st h = zrun zP sv C 145 23 [l0, l1, .val (.int x)] (.int x :: st) h := zx_go rfl rfl
theorem zs_145_23 : zrun zP sv C 145 23 [l0, l1, l2] [v1, .ref b, r0, r1, r2, r3] h = zrc (h.1 b) 6 (zbk (C 185 [.ref b, v1] h) (fun v h' => zrun zP sv C 145 26 [l0, l1, l2] (v.toList ++ [r0, r1, r2, r3]) h') (fun E h' => some (.inr E, h'))) := zx_cv (x0 := 6) rfl rfl rfl rfl rfl ⟨Nat.le_of_ble_eq_true rfl, rfl⟩ (fun _ _ => rfl)
theorem zs_145_26 : zrun zP sv C 145 26 [.val (.ref a), l1, l2] st h = zrun zP sv C 145 27 [.val (.ref a), l1, l2] (.ref a :: st) h := zx_go rfl rfl
theorem zs_145_27 : zrun zP sv C 145 27 [l0, .val (.ref a), l2] st h = zrun zP sv C 145 28 [l0, .val (.ref a), l2] (.ref a :: st) h := zx_go rfl rfl
theorem zs_145_28 : zrun zP sv C 145 28 [l0, l1, .val (.int x)] st h = zrun zP sv C 145 29 [l0, l1, .val (.int x)] (.int x :: st) h := zx_go rfl rfl
theorem zs_145_29 : zrun zP sv C 145 29 [l0, l1, l2] [v1, .ref b, .ref q0, .int w1, .int w2, .ref q3, .int w4, .ref q5] h = zrc (h.1 b) 6 (zbk (C 186 [.ref b, v1] h) (fun v h' => zrun zP sv C 145 32 [l0, l1, l2] (v.toList ++ [.ref q0, .int w1, .int w2, .ref q3, .int w4, .ref q5]) h') (fun E h' => some (.inr E, h'))) := zx_cv (x0 := 6) rfl rfl rfl rfl rfl ⟨Nat.le_of_ble_eq_true rfl, rfl⟩ (fun _ _ => rfl)
theorem zs_145_32 : zrun zP sv C 145 32 [l0, l1, l2] [v1, .ref b, .int w0, .int w1, .ref q2, .int w3, .ref q4] h = zrc (h.1 b) 11 (zbk (C 146 [.ref b, v1] h) (fun v h' => zrun zP sv C 145 35 [l0, l1, l2] (v.toList ++ [.int w0, .int w1, .ref q2, .int w3, .ref q4]) h') (fun E h' => some (.inr E, h'))) := zx_cv (x0 := 11) rfl rfl rfl rfl rfl ⟨Nat.le_of_ble_eq_true rfl, rfl⟩ (fun _ _ => rfl)
theorem zs_145_35 : zrun zP sv C 145 35 [.val (.ref a), l1, l2] st h = zrun zP sv C 145 36 [.val (.ref a), l1, l2] (.ref a :: st) h := zx_go rfl rfl
theorem zs_145_36 : zrun zP sv C 145 36 [l0, .val (.ref a), l2] st h = zrun zP sv C 145 37 [l0, .val (.ref a), l2] (.ref a :: st) h := zx_go rfl rfl
theorem zs_145_37 : zrun zP sv C 145 37 [l0, l1, .val (.int x)] st h = zrun zP sv C 145 38 [l0, l1, .val (.int x)] (.int x :: st) h := zx_go rfl rfl
theorem zs_145_38 : zrun zP sv C 145 38 [l0, l1, l2] [v1, .ref b, .ref q0, .int w1, .int w2, .int w3, .ref q4, .int w5, .ref q6] h = zrc (h.1 b) 6 (zbk (C 187 [.ref b, v1] h) (fun v h' => zrun zP sv C 145 41 [l0, l1, l2] (v.toList ++ [.ref q0, .int w1, .int w2, .int w3, .ref q4, .int w5, .ref q6]) h') (fun E h' => some (.inr E, h'))) := zx_cv (x0 := 6) rfl rfl rfl rfl rfl ⟨Nat.le_of_ble_eq_true rfl, rfl⟩ (fun _ _ => rfl)
theorem zs_145_41 : zrun zP sv C 145 41 [l0, l1, l2] [v1, .ref b, .int w0, .int w1, .int w2, .ref q3, .int w4, .ref q5] h = zrc (h.1 b) 11 (zbk (C 146 [.ref b, v1] h) (fun v h' => zrun zP sv C 145 44 [l0, l1, l2] (v.toList ++ [.int w0, .int w1, .int w2, .ref q3, .int w4, .ref q5]) h') (fun E h' => some (.inr E, h'))) := zx_cv (x0 := 11) rfl rfl rfl rfl rfl ⟨Nat.le_of_ble_eq_true rfl, rfl⟩ (fun _ _ => rfl)
theorem zs_145_44 : zrun zP sv C 145 44 [l0, l1, l2] [v4, v3, v2, v1, .ref b, r0, r1] h = zrc (h.1 b) 11 (zbk (C 147 [.ref b, v1, v2, v3, v4] h) (fun v h' => zrun zP sv C 145 47 [l0, l1, l2] (v.toList ++ [r0, r1]) h') (fun E h' => some (.inr E, h'))) := zx_cv (x0 := 11) rfl rfl rfl rfl rfl ⟨Nat.le_of_ble_eq_true rfl, rfl⟩ (fun _ _ => rfl)
theorem zs_145_47 : zrun zP sv C 145 47 [l0, l1, l2] [v2, v1, .ref b] h = zrc (h.1 b) 4 (zbk (C 166 [.ref b, v1, v2] h) (fun v h' => zrun zP sv C 145 50 [l0, l1, l2] (v.toList ++ []) h') (fun E h' => some (.inr E, h'))) := zx_cv (x0 := 4) rfl rfl rfl rfl rfl ⟨Nat.le_of_ble_eq_true rfl, rfl⟩ (fun _ _ => rfl)
theorem zs_145_50 : zrun zP sv C 145 50 [l0, l1, .val (.int x)] st h = zrun zP sv C 145 53 [l0, l1, .val (.int (x + (nI 1)))] st h := zx_ii rfl rfl rfl rfl rfl
theorem zs_145_53 : zrun zP sv C 145 53 [l0, l1, l2] st h = zrun zP sv C 145 2 [l0, l1, l2] st h := zx_go rfl rfl
theorem zs_145_56 : zrun zP sv C 145 56 [l0, l1, l2] [] h = some (.inl none, h) := zx_end rfl rfl
theorem zs_146_0 : zrun zP sv C 146 0 [l0, .val (.int x)] st h = zrun zP sv C 146 1 [l0, .val (.int x)] (.int x :: st) h := zx_go rfl rfl
theorem zs_146_1 : zrun zP sv C 146 1 [l0, l1] st h = zrun zP sv C 146 2 [l0, l1] (.int (-1) :: st) h := zx_go rfl rfl
theorem zs_146_2 : zrun zP sv C 146 2 [l0, l1] (.int y :: .int x :: st) h = if x = y then zrun zP sv C 146 5 [l0, l1] st h else zrun zP sv C 146 9 [l0, l1] st h := (zx_ic rfl rfl).trans zc1_if
theorem zs_146_5 : zrun zP sv C 146 5 [l0, l1] st h = zrun zP sv C 146 6 [l0, l1] (.int (-1) :: st) h := zx_go rfl rfl
theorem zs_146_6 : zrun zP sv C 146 6 [l0, l1] st h = zrun zP sv C 146 17 [l0, l1] st h := zx_go rfl rfl
theorem zs_146_9 : zrun zP sv C 146 9 [.val (.ref a), l1] st h = zrun zP sv C 146 10 [.val (.ref a), l1] (.ref a :: st) h := zx_go rfl rfl
theorem zs_146_10 : zrun zP sv C 146 10 [l0, l1] (.ref a :: st) h = zfld (h.1 a) 11 1 (fun v => zrun zP sv C 146 13 [l0, l1] (v :: st) h) := zx_getf rfl rfl
theorem zs_146_13 : zrun zP sv C 146 13 [l0, .val (.int x)] st h = zrun zP sv C 146 14 [l0, .val (.int x)] (.int x :: st) h := zx_go rfl rfl
theorem zs_146_14 : zrun zP sv C 146 14 [l0, l1] [v1, .ref b] h = zrc (h.1 b) 4 (zbk (C 165 [.ref b, v1] h) (fun v h' => zrun zP sv C 146 17 [l0, l1] (v.toList ++ []) h') (fun E h' => some (.inr E, h'))) := zx_cv (x0 := 4) rfl rfl rfl rfl rfl ⟨Nat.le_of_ble_eq_true rfl, rfl⟩ (fun _ _ => rfl)
theorem zs_146_17 : zrun zP sv C 146 17 [l0, l1] [.int x] h = some (.inl (some (.int x)), h) := zx_end rfl rfl
theorem zs_147_0 : zrun zP sv C 147 0 [l0, l1, l2, l3, l4, l5] st h = zrun zP sv C 147 1 [l0, l1, l2, l3, l4, l5] (.int 0 :: st) h := zx_go rfl rfl
theorem zs_147_1 (hs : znw l5 = true) : zrun zP sv C 147 1 [l0, l1, l2, l3, l4, l5] (.int x :: st) h = zrun zP sv C 147 3 [l0, l1, l2, l3, l4, .val (.int x)] st h := zx_st hs rfl rfl rfl rfl rfl rfl
theorem zs_147_3 : zrun zP sv C 147 3 [l0, l1, l2, l3, l4, .val (.int x)] st h = zrun zP sv C 147 5 [l0, l1, l2, l3, l4, .val (.int x)] (.int x :: st) h := zx_go rfl rfl
theorem zs_147_5 : zrun zP sv C 147 5 [.val (.ref a), l1, l2, l3, l4, l5] st h = zrun zP sv C 147 6 [.val (.ref a), l1, l2, l3, l4, l5] (.ref a :: st) h := zx_go rfl rfl
theorem zs_147_6 : zrun zP sv C 147 6 [l0, l1, l2, l3, l4, l5] (.ref a :: st) h = zfld (h.1 a) 11 0 (fun v => zrun zP sv C 147 9 [l0, l1, l2, l3, l4, l5] (v :: st) h) := zx_getf rfl rfl
theorem zs_147_9 : zrun zP sv C 147 9 [l0, l1, l2, l3, l4, l5] [.ref b, r0] h = zrc (h.1 b) 6 (zbk (C 182 [.ref b] h) (fun v h' => zrun zP sv C 147 12 [l0, l1, l2, l3, l4, l5] (v.toList ++ [r0]) h') (fun E h' => some (.inr E, h'))) := zx_cv (x0 := 6) rfl rfl rfl rfl rfl ⟨Nat.le_of_ble_eq_true rfl, rfl⟩ (fun _ _ => rfl)
theorem zs_147_12 : zrun zP sv C 147 12 [l0, l1, l2, l3, l4, l5] (.int y :: .int x :: st) h = if x < y then zrun zP sv C 147 15 [l0, l1, l2, l3, l4, l5] st h else zrun zP sv C 147 77 [l0, l1, l2, l3, l4, l5] st h := (zx_ic rfl rfl).trans zc3_if
theorem zs_147_15 : zrun zP sv C 147 15 [.val (.ref a), l1, l2, l3, l4, l5] st h = zrun zP sv C 147 16 [.val (.ref a), l1, l2, l3, l4, l5] (.ref a :: st) h := zx_go rfl rfl
theorem zs_147_16 : zrun zP sv C 147 16 [l0, l1, l2, l3, l4, l5] (.ref a :: st) h = zfld (h.1 a) 11 0 (fun v => zrun zP sv C 147 19 [l0, l1, l2, l3, l4, l5] (v :: st) h) := zx_getf rfl rfl
theorem zs_147_19 : zrun zP sv C 147 19 [l0, l1, l2, l3, l4, .val (.int x)] st h = zrun zP sv C 147 21 [l0, l1, l2, l3, l4, .val (.int x)] (.int x :: st) h := zx_go rfl rfl
theorem zs_147_21 : zrun zP sv C 147 21 [l0, l1, l2, l3, l4, l5] [v1, .ref b] h = zrc (h.1 b) 6 (zbk (C 184 [.ref b, v1] h) (fun v h' => zrun zP sv C 147 24 [l0, l1, l2, l3, l4, l5] (v.toList ++ []) h') (fun E h' => some (.inr E, h'))) := zx_cv (x0 := 6) rfl rfl rfl rfl rfl ⟨Nat.le_of_ble_eq_true rfl, rfl⟩ (fun _ _ => rfl)
theorem zs_147_24 : zrun zP sv C 147 24 [l0, .val (.int x), l2, l3, l4, l5] st h = zrun zP sv C 147 25 [l0, .val (.int x), l2, l3, l4, l5] (.int x :: st) h := zx_go rfl rfl
theorem zs_147_25 : zrun zP sv C 147 25 [l0, l1, l2, l3, l4, l5] (.int y :: .int x :: st) h = if x = y then zrun zP sv C 147 28 [l0, l1, l2, l3, l4, l5] st h else zrun zP sv C 147 71 [l0, l1, l2, l3, l4, l5] st h := (zx_ic rfl rfl).trans zc1_if
theorem zs_147_28 : zrun zP sv C 147 28 [.val (.ref a), l1, l2, l3, l4, l5] st h = zrun zP sv C 147 29 [.val (.ref a), l1, l2, l3, l4, l5] (.ref a :: st) h := zx_go rfl rfl
theorem zs_147_29 : zrun zP sv C 147 29 [l0, l1, l2, l3, l4, l5] (.ref a :: st) h = zfld (h.1 a) 11 0 (fun v => zrun zP sv C 147 32 [l0, l1, l2, l3, l4, l5] (v :: st) h) := zx_getf rfl rfl
theorem zs_147_32 : zrun zP sv C 147 32 [l0, l1, l2, l3, l4, .val (.int x)] st h = zrun zP sv C 147 34 [l0, l1, l2, l3, l4, .val (.int x)] (.int x :: st) h := zx_go rfl rfl
theorem zs_147_34 : zrun zP sv C 147 34 [l0, l1, l2, l3, l4, l5] [v1, .ref b] h = zrc (h.1 b) 6 (zbk (C 185 [.ref b, v1] h) (fun v h' => zrun zP sv C 147 37 [l0, l1, l2, l3, l4, l5] (v.toList ++ []) h') (fun E h' => some (.inr E, h'))) := zx_cv (x0 := 6) rfl rfl rfl rfl rfl ⟨Nat.le_of_ble_eq_true rfl, rfl⟩ (fun _ _ => rfl)
theorem zs_147_37 : zrun zP sv C 147 37 [l0, l1, .val (.int x), l3, l4, l5] st h = zrun zP sv C 147 38 [l0, l1, .val (.int x), l3, l4, l5] (.int x :: st) h := zx_go rfl rfl
theorem zs_147_38 : zrun zP sv C 147 38 [l0, l1, l2, l3, l4, l5] (.int y :: .int x :: st) h = if x = y then zrun zP sv C 147 41 [l0, l1, l2, l3, l4, l5] st h else zrun zP sv C 147 71 [l0, l1, l2, l3, l4, l5] st h := (zx_ic rfl rfl).trans zc1_if
theorem zs_147_41 : zrun zP sv C 147 41 [.val (.ref a), l1, l2, l3, l4, l5] st h = zrun zP sv C 147 42 [.val (.ref a), l1, l2, l3, l4, l5] (.ref a :: st) h := zx_go rfl rfl
theorem zs_147_42 : zrun zP sv C 147 42 [l0, l1, l2, l3, l4, l5] (.ref a :: st) h = zfld (h.1 a) 11 0 (fun v => zrun zP sv C 147 45 [l0, l1, l2, l3, l4, l5] (v :: st) h) := zx_getf rfl rfl
theorem zs_147_45 : zrun zP sv C 147 45 [l0, l1, l2, l3, l4, .val (.int x)] st h = zrun zP sv C 147 47 [l0, l1, l2, l3, l4, .val (.int x)] (.int x :: st) h := zx_go rfl rfl
theorem zs_147_47 : zrun zP sv C 147 47 [l0, l1, l2, l3, l4, l5] [v1, .ref b] h = zrc (h.1 b) 6 (zbk (C 186 [.ref b, v1] h) (fun v h' => zrun zP sv C 147 50 [l0, l1, l2, l3, l4, l5] (v.toList ++ []) h') (fun E h' => some (.inr E, h'))) := zx_cv (x0 := 6) rfl rfl rfl rfl rfl ⟨Nat.le_of_ble_eq_true rfl, rfl⟩ (fun _ _ => rfl)
theorem zs_147_50 : zrun zP sv C 147 50 [l0, l1, l2, .val (.int x), l4, l5] st h = zrun zP sv C 147 51 [l0, l1, l2, .val (.int x), l4, l5] (.int x :: st) h := zx_go rfl rfl
theorem zs_147_51 : zrun zP sv C 147 51 [l0, l1, l2, l3, l4, l5] (.int y :: .int x :: st) h = if x = y then zrun zP sv C 147 54 [l0, l1, l2, l3, l4, l5] st h else zrun zP sv C 147 71 [l0, l1, l2, l3, l4, l5] st h := (zx_ic rfl rfl).trans zc1_if
theorem zs_147_54 : zrun zP sv C 147 54 [.val (.ref a), l1, l2, l3, l4, l5] st h = zrun zP sv C 147 55 [.val (.ref a), l1, l2, l3, l4, l5] (.ref a :: st) h := zx_go rfl rfl
theorem zs_147_55 : zrun zP sv C 147 55 [l0, l1, l2, l3, l4, l5] (.ref a :: st) h = zfld (h.1 a) 11 0 (fun v => zrun zP sv C 147 58 [l0, l1, l2, l3, l4, l5] (v :: st) h) := zx_getf rfl rfl
theorem zs_147_58 : zrun zP sv C 147 58 [l0, l1, l2, l3, l4, .val (.int x)] st h = zrun zP sv C 147 60 [l0, l1, l2, l3, l4, .val (.int x)] (.int x :: st) h := zx_go rfl rfl
theorem zs_147_60 : zrun zP sv C 147 60 [l0, l1, l2, l3, l4, l5] [v1, .ref b] h = zrc (h.1 b) 6 (zbk (C 187 [.ref b, v1] h) (fun v h' => zrun zP sv C 147 63 [l0, l1, l2, l3, l4, l5] (v.toList ++ []) h') (fun E h' => some (.inr E, h'))) := zx_cv (x0 := 6) rfl rfl rfl rfl rfl ⟨Nat.le_of_ble_eq_true rfl, rfl⟩ (fun _ _ => rfl)
theorem zs_147_63 : zrun zP sv C 147 63 [l0, l1, l2, l3, .val (.int x), l5] st h = zrun zP sv C 147 65 [l0, l1, l2, l3, .val (.int x), l5] (.int x :: st) h := zx_go rfl rfl
theorem zs_147_65 : zrun zP sv C 147 65 [l0, l1, l2, l3, l4, l5] (.int y :: .int x :: st) h = if x = y then zrun zP sv C 147 68 [l0, l1, l2, l3, l4, l5] st h else zrun zP sv C 147 71 [l0, l1, l2, l3, l4, l5] st h := (zx_ic rfl rfl).trans zc1_if
theorem zs_147_68 : zrun zP sv C 147 68 [l0, l1, l2, l3, l4, .val (.int x)] st h = zrun zP sv C 147 70 [l0, l1, l2, l3, l4, .val (.int x)] (.int x :: st) h := zx_go rfl rfl
theorem zs_147_70 : zrun zP sv C 147 70 [l0, l1, l2, l3, l4, l5] [.int x] h = some (.inl (some (.int x)), h) := zx_end rfl rfl
theorem zs_147_71 : zrun zP sv C 147 71 [l0, l1, l2, l3, l4, .val (.int x)] st h = zrun zP sv C 147 74 [l0, l1, l2, l3, l4, .val (.int (x + (nI 1)))] st h := zx_ii rfl rfl rfl rfl rfl
theorem zs_147_74 : zrun zP sv C 147 74 [l0, l1, l2, l3, l4, l5] st h = zrun zP sv C 147 3 [l0, l1, l2, l3, l4, l5] st h := zx_go rfl rfl
theorem zs_147_77 : zrun zP sv C 147 77 [.val (.ref a), l1, l2, l3, l4, l5] st h = zrun zP sv C 147 78 [.val (.ref a), l1, l2, l3, l4, l5] (.ref a :: st) h := zx_go rfl rfl
theorem zs_147_78 : zrun zP sv C 147 78 [l0, l1, l2, l3, l4, l5] (.ref a :: st) h = zfld (h.1 a) 11 0 (fun v => zrun zP sv C 147 81 [l0, l1, l2, l3, l4, l5] (v :: st) h) := zx_getf rfl rfl
theorem zs_147_81 : zrun zP sv C 147 81 [l0, .val (.int x), l2, l3, l4, l5] st h = zrun zP sv C 147 82 [l0, .val (.int x), l2, l3, l4, l5] (.int x :: st) h := zx_go rfl rfl
theorem zs_147_82 : zrun zP sv C 147 82 [l0, l1, .val (.int x), l3, l4, l5] st h = zrun zP sv C 147 83 [l0, l1, .val (.int x), l3, l4, l5] (.int x :: st) h := zx_go rfl rfl
theorem zs_147_83 : zrun zP sv C 147 83 [l0, l1, l2, .val (.int x), l4, l5] st h = zrun zP sv C 147 84 [l0, l1, l2, .val (.int x), l4, l5] (.int x :: st) h := zx_go rfl rfl
theorem zs_147_84 : zrun zP sv C 147 84 [l0, l1, l2, l3, .val (.int x), l5] st h = zrun zP sv C 147 86 [l0, l1, l2, l3, .val (.int x), l5] (.int x :: st) h := zx_go rfl rfl
theorem zs_147_86 : zrun zP sv C 147 86 [l0, l1, l2, l3, l4, l5] [v4, v3, v2, v1, .ref b] h = zrc (h.1 b) 6 (zbk (C 191 [.ref b, v1, v2, v3, v4] h) (fun v h' => zrun zP sv C 147 89 [l0, l1, l2, l3, l4, l5] (v.toList ++ []) h') (fun E h' => some (.inr E, h'))) := zx_cv (x0 := 6) rfl rfl rfl rfl rfl ⟨Nat.le_of_ble_eq_true rfl, rfl⟩ (fun _ _ => rfl)
theorem zs_147_89 : zrun zP sv C 147 89 [l0, l1, l2, l3, l4, l5] [.int x] h = some (.inl (some (.int x)), h) := zx_end rfl rfl
theorem zs_148_0 : zrun zP sv C 148 0 [.val (.ref a)] st h = zrun zP sv C 148 1 [.val (.ref a)] (.ref a :: st) h := zx_go rfl rfl
theorem zs_148_1 : zrun zP sv C 148 1 [l0] [.ref a] h = zrun zP sv C 148 4 [l0] [] h := zx_go rfl rfl
theorem zs_148_4 : zrun zP sv C 148 4 [.val (.ref a)] st h = zrun zP sv C 148 5 [.val (.ref a)] (.ref a :: st) h := zx_go rfl rfl
theorem zs_148_5 : zrun zP sv C 148 5 [l0] st h = zrun zP sv C 148 8 [l0] (.ref h.2.1 :: st) (znew h (8, [.null, .int 0]) 2) := zx_go rfl rfl
theorem zs_148_8 : zrun zP sv C 148 8 [l0] (.ref a :: st) h = zrun zP sv C 148 9 [l0] (.ref a :: .ref a :: st) h := zx_go rfl rfl
theorem zs_148_9 : zrun zP sv C 148 9 [l0] [.ref b, r0, r1] h = zrc (h.1 b) 8 (zbk (C 136 [.ref b] h) (fun v h' => zrun zP sv C 148 12 [l0] (v.toList ++ [r0, r1]) h') (fun E h' => some (.inr E, h'))) := zx_cv (x0 := 8) rfl rfl rfl rfl rfl ⟨Nat.le_of_ble_eq_true rfl, rfl⟩ (fun _ _ => rfl)
theorem zs_148_12 : zrun zP sv C 148 12 [l0] (.ref b :: .ref a :: st) h = zpfd (h.1 a) 7 0 4 (.ref b) (fun c => zrun zP sv C 148 15 [l0] st (zup h a c)) := zx_putf (x0 := 4) rfl rfl
theorem zs_148_15 : zrun zP sv C 148 15 [.val (.ref a)] st h = zrun zP sv C 148 16 [.val (.ref a)] (.ref a :: st) h := zx_go rfl rfl
theorem zs_148_16 : zrun zP sv C 148 16 [l0] st h = zrun zP sv C 148 19 [l0] (.ref h.2.1 :: st) (znew h (6, [.null, .null, .null, .null, .int 0, .int 0]) 6) := zx_go rfl rfl
theorem zs_148_19 : zrun zP sv C 148 19 [l0] (.ref a :: st) h = zrun zP sv C 148 20 [l0] (.ref a :: .ref a :: st) h := zx_go rfl rfl
theorem zs_148_20 : zrun zP sv C 148 20 [l0] st h = zrun zP sv C 148 22 [l0] (.int (nI 60) :: st) h := zx_go rfl rfl
theorem zs_148_22 : zrun zP sv C 148 22 [l0] [v1, .ref b, r0, r1] h = zrc (h.1 b) 6 (zbk (C 181 [.ref b, v1] h) (fun v h' => zrun zP sv C 148 25 [l0] (v.toList ++ [r0, r1]) h') (fun E h' => some (.inr E, h'))) := zx_cv (x0 := 6) rfl rfl rfl rfl rfl ⟨Nat.le_of_ble_eq_true rfl, rfl⟩ (fun _ _ => rfl)
theorem zs_148_25 : zrun zP sv C 148 25 [l0] (.ref b :: .ref a :: st) h = zpfd (h.1 a) 7 1 4 (.ref b) (fun c => zrun zP sv C 148 28 [l0] st (zup h a c)) := zx_putf (x0 := 4) rfl rfl
theorem zs_148_28 : zrun zP sv C 148 28 [.val (.ref a)] st h = zrun zP sv C 148 29 [.val (.ref a)] (.ref a :: st) h := zx_go rfl rfl
theorem zs_148_29 : zrun zP sv C 148 29 [l0] st h = zrun zP sv C 148 30 [l0] (.int 0 :: st) h := zx_go rfl rfl
theorem zs_148_30 : zrun zP sv C 148 30 [l0] (.int x :: .ref a :: st) h = zpfd (h.1 a) 7 2 0 (.int x) (fun c => zrun zP sv C 148 33 [l0] st (zup h a c)) := zx_putf (x0 := 0) rfl rfl
theorem zs_148_33 : zrun zP sv C 148 33 [l0] [] h = some (.inl none, h) := zx_end rfl rfl
theorem zs_149_0 : zrun zP sv C 149 0 [.val (.ref a)] st h = zrun zP sv C 149 1 [.val (.ref a)] (.ref a :: st) h := zx_go rfl rfl
theorem zs_149_1 : zrun zP sv C 149 1 [l0] (.ref a :: st) h = zfld (h.1 a) 7 0 (fun v => zrun zP sv C 149 4 [l0] (v :: st) h) := zx_getf rfl rfl
theorem zs_149_4 : zrun zP sv C 149 4 [l0] [.ref a] h = some (.inl (some (.ref a)), h) := zx_end rfl rfl
theorem zs_150_0 : zrun zP sv C 150 0 [.val (.ref a)] st h = zrun zP sv C 150 1 [.val (.ref a)] (.ref a :: st) h := zx_go rfl rfl
theorem zs_150_1 : zrun zP sv C 150 1 [l0] (.ref a :: st) h = zfld (h.1 a) 7 1 (fun v => zrun zP sv C 150 4 [l0] (v :: st) h) := zx_getf rfl rfl
theorem zs_150_4 : zrun zP sv C 150 4 [l0] [.ref a] h = some (.inl (some (.ref a)), h) := zx_end rfl rfl
theorem zs_151_0 : zrun zP sv C 151 0 [.val (.ref a)] st h = zrun zP sv C 151 1 [.val (.ref a)] (.ref a :: st) h := zx_go rfl rfl
theorem zs_151_1 : zrun zP sv C 151 1 [l0] (.ref a :: st) h = zfld (h.1 a) 7 2 (fun v => zrun zP sv C 151 4 [l0] (v :: st) h) := zx_getf rfl rfl
theorem zs_151_4 : zrun zP sv C 151 4 [l0] [.int x] h = some (.inl (some (.int x)), h) := zx_end rfl rfl
theorem zs_152_0 : zrun zP sv C 152 0 [.val (.ref a), l1] st h = zrun zP sv C 152 1 [.val (.ref a), l1] (.ref a :: st) h := zx_go rfl rfl
theorem zs_152_1 : zrun zP sv C 152 1 [l0, l1] (.ref a :: st) h = zfld (h.1 a) 7 1 (fun v => zrun zP sv C 152 4 [l0, l1] (v :: st) h) := zx_getf rfl rfl
theorem zs_152_4 : zrun zP sv C 152 4 [l0, l1] [.ref b] h = zrc (h.1 b) 6 (zbk (C 190 [.ref b] h) (fun v h' => zrun zP sv C 152 7 [l0, l1] (v.toList ++ []) h') (fun E h' => some (.inr E, h'))) := zx_cv (x0 := 6) rfl rfl rfl rfl rfl ⟨Nat.le_of_ble_eq_true rfl, rfl⟩ (fun _ _ => rfl)
theorem zs_152_7 : zrun zP sv C 152 7 [.val (.ref a), l1] st h = zrun zP sv C 152 8 [.val (.ref a), l1] (.ref a :: st) h := zx_go rfl rfl
theorem zs_152_8 : zrun zP sv C 152 8 [l0, l1] st h = zrun zP sv C 152 9 [l0, l1] (.int 0 :: st) h := zx_go rfl rfl
theorem zs_152_9 : zrun zP sv C 152 9 [l0, l1] (.int x :: .ref a :: st) h = zpfd (h.1 a) 7 2 0 (.int x) (fun c => zrun zP sv C 152 12 [l0, l1] st (zup h a c)) := zx_putf (x0 := 0) rfl rfl
theorem zs_152_12 : zrun zP sv C 152 12 [.val (.ref a), l1] st h = zrun zP sv C 152 13 [.val (.ref a), l1] (.ref a :: st) h := zx_go rfl rfl
theorem zs_152_13 : zrun zP sv C 152 13 [l0, l1] st h = zrun zP sv C 152 14 [l0, l1] (.int 0 :: st) h := zx_go rfl rfl
theorem zs_152_14 : zrun zP sv C 152 14 [l0, l1] [v1, .ref b] h = zrc (h.1 b) 7 (zbk (C 153 [.ref b, v1] h) (fun v h' => zrun zP sv C 152 17 [l0, l1] (v.toList ++ []) h') (fun E h' => some (.inr E, h'))) := zx_cv (x0 := 7) rfl rfl rfl rfl rfl ⟨Nat.le_of_ble_eq_true rfl, rfl⟩ (fun _ _ => rfl)
theorem zs_152_17 (hs : znw l1 = true) : zrun zP sv C 152 17 [l0, l1] (.int x :: st) h = zrun zP sv C 152 18 [l0, .val (.int x)] st h := zx_st hs rfl rfl rfl rfl rfl rfl
theorem zs_152_18 : zrun zP sv C 152 18 [.val (.ref a), l1] st h = zrun zP sv C 152 19 [.val (.ref a), l1] (.ref a :: st) h := zx_go rfl rfl
theorem zs_152_19 : zrun zP sv C 152 19 [l0, l1] (.ref a :: st) h = zfld (h.1 a) 7 2 (fun v => zrun zP sv C 152 22 [l0, l1] (v :: st) h) := zx_getf rfl rfl
theorem zs_152_22 : zrun zP sv C 152 22 [.val (.ref a), l1] st h = zrun zP sv C 152 23 [.val (.ref a), l1] (.ref a :: st) h := zx_go rfl rfl
theorem zs_152_23 : zrun zP sv C 152 23 [l0, l1] (.ref a :: st) h = zfld (h.1 a) 7 0 (fun v => zrun zP sv C 152 26 [l0, l1] (v :: st) h) := zx_getf rfl rfl
theorem zs_152_26 : zrun zP sv C 152 26 [l0, l1] [.ref b, r0] h = zrc (h.1 b) 8 (zbk (C 138 [.ref b] h) (fun v h' => zrun zP sv C 152 29 [l0, l1] (v.toList ++ [r0]) h') (fun E h' => some (.inr E, h'))) := zx_cv (x0 := 8) rfl rfl rfl rfl rfl ⟨Nat.le_of_ble_eq_true rfl, rfl⟩ (fun _ _ => rfl)
theorem zs_152_29 : zrun zP sv C 152 29 [l0, l1] (.int y :: .int x :: st) h = if x = y then zrun zP sv C 152 32 [l0, l1] st h else zrun zP sv C 152 36 [l0, l1] st h := (zx_ic rfl rfl).trans zc1_if
theorem zs_152_32 : zrun zP sv C 152 32 [l0, .val (.int x)] st h = zrun zP sv C 152 33 [l0, .val (.int x)] (.int x :: st) h := zx_go rfl rfl
theorem zs_152_33 : zrun zP sv C 152 33 [l0, l1] st h = zrun zP sv C 152 37 [l0, l1] st h := zx_go rfl rfl
theorem zs_152_36 : zrun zP sv C 152 36 [l0, l1] st h = zrun zP sv C 152 37 [l0, l1] (.int (-1) :: st) h := zx_go rfl rfl
theorem zs_152_37 : zrun zP sv C 152 37 [l0, l1] [.int x] h = some (.inl (some (.int x)), h) := zx_end rfl rfl
theorem zs_153_0 : zrun zP sv C 153 0 [.val (.ref a), l1, l2, l3, l4] st h = zrun zP sv C 153 1 [.val (.ref a), l1, l2, l3, l4] (.ref a :: st) h := zx_go rfl rfl
theorem zs_153_1 : zrun zP sv C 153 1 [l0, .val (.int x), l2, l3, l4] st h = zrun zP sv C 153 2 [l0, .val (.int x), l2, l3, l4] (.int x :: st) h := zx_go rfl rfl
theorem zs_153_2 : zrun zP sv C 153 2 [l0, l1, l2, l3, l4] [v1, .ref b] h = zrc (h.1 b) 7 (zbk (C 154 [.ref b, v1] h) (fun v h' => zrun zP sv C 153 5 [l0, l1, l2, l3, l4] (v.toList ++ []) h') (fun E h' => some (.inr E, h'))) := zx_cv (x0 := 7) rfl rfl rfl rfl rfl ⟨Nat.le_of_ble_eq_true rfl, rfl⟩ (fun _ _ => rfl)
theorem zs_153_5 (hs : znw l2 = true) : zrun zP sv C 153 5 [l0, l1, l2, l3, l4] (.int x :: st) h = zrun zP sv C 153 6 [l0, l1, .val (.int x), l3, l4] st h := zx_st hs rfl rfl rfl rfl rfl rfl
theorem zs_153_6 : zrun zP sv C 153 6 [l0, l1, l2, l3, l4] st h = zrun zP sv C 153 7 [l0, l1, l2, l3, l4] (.int 0 :: st) h := zx_go rfl rfl
theorem zs_153_7 (hs : znw l3 = true) : zrun zP sv C 153 7 [l0, l1, l2, l3, l4] (.int x :: st) h = zrun zP sv C 153 8 [l0, l1, l2, .val (.int x), l4] st h := zx_st hs rfl rfl rfl rfl rfl rfl
theorem zs_153_8 : zrun zP sv C 153 8 [l0, l1, l2, .val (.int x), l4] st h = zrun zP sv C 153 9 [l0, l1, l2, .val (.int x), l4] (.int x :: st) h := zx_go rfl rfl
theorem zs_153_9 : zrun zP sv C 153 9 [l0, l1, l2, l3, l4] st h = zrun zP sv C 153 11 [l0, l1, l2, l3, l4] (.int (nI 60) :: st) h := zx_go rfl rfl
theorem zs_153_11 : zrun zP sv C 153 11 [l0, l1, l2, l3, l4] (.int y :: .int x :: st) h = if x < y then zrun zP sv C 153 14 [l0, l1, l2, l3, l4] st h else zrun zP sv C 153 55 [l0, l1, l2, l3, l4] st h := (zx_ic rfl rfl).trans zc3_if
theorem zs_153_14 : zrun zP sv C 153 14 [l0, l1, .val (.int x), l3, l4] st h = zrun zP sv C 153 15 [l0, l1, .val (.int x), l3, l4] (.int x :: st) h := zx_go rfl rfl
theorem zs_153_15 : zrun zP sv C 153 15 [l0, l1, l2, l3, l4] st h = zrun zP sv C 153 16 [l0, l1, l2, l3, l4] (.int (-1) :: st) h := zx_go rfl rfl
theorem zs_153_16 : zrun zP sv C 153 16 [l0, l1, l2, l3, l4] (.int y :: .int x :: st) h = if x = y then zrun zP sv C 153 55 [l0, l1, l2, l3, l4] st h else zrun zP sv C 153 19 [l0, l1, l2, l3, l4] st h := (zx_ic rfl rfl).trans zc0_if
theorem zs_153_19 : zrun zP sv C 153 19 [.val (.ref a), l1, l2, l3, l4] st h = zrun zP sv C 153 20 [.val (.ref a), l1, l2, l3, l4] (.ref a :: st) h := zx_go rfl rfl
theorem zs_153_20 : zrun zP sv C 153 20 [l0, l1, l2, l3, l4] st h = zrun zP sv C 153 22 [l0, l1, l2, l3, l4] (.int (nI 43) :: st) h := zx_go rfl rfl
theorem zs_153_22 : zrun zP sv C 153 22 [l0, l1, l2, l3, l4] st h = zrun zP sv C 153 24 [l0, l1, l2, l3, l4] (.int (nI 45) :: st) h := zx_go rfl rfl
theorem zs_153_24 : zrun zP sv C 153 24 [l0, l1, l2, l3, l4] [v2, v1, .ref b] h = zrc (h.1 b) 7 (zbk (C 163 [.ref b, v1, v2] h) (fun v h' => zrun zP sv C 153 27 [l0, l1, l2, l3, l4] (v.toList ++ []) h') (fun E h' => some (.inr E, h'))) := zx_cv (x0 := 7) rfl rfl rfl rfl rfl ⟨Nat.le_of_ble_eq_true rfl, rfl⟩ (fun _ _ => rfl)
theorem zs_153_27 : zrun zP sv C 153 27 [l0, l1, l2, l3, l4] (.int x :: st) h = if x = 0 then zrun zP sv C 153 55 [l0, l1, l2, l3, l4] st h else zrun zP sv C 153 30 [l0, l1, l2, l3, l4] st h := (zx_if rfl rfl).trans zc0_if
theorem zs_153_30 : zrun zP sv C 153 30 [.val (.ref a), l1, l2, l3, l4] st h = zrun zP sv C 153 31 [.val (.ref a), l1, l2, l3, l4] (.ref a :: st) h := zx_go rfl rfl
theorem zs_153_31 : zrun zP sv C 153 31 [l0, l1, l2, l3, l4] [.ref b] h = zrc (h.1 b) 7 (zbk (C 160 [.ref b] h) (fun v h' => zrun zP sv C 153 34 [l0, l1, l2, l3, l4] (v.toList ++ []) h') (fun E h' => some (.inr E, h'))) := zx_cv (x0 := 7) rfl rfl rfl rfl rfl ⟨Nat.le_of_ble_eq_true rfl, rfl⟩ (fun _ _ => rfl)
theorem zs_153_34 (hs : znw l4 = true) : zrun zP sv C 153 34 [l0, l1, l2, l3, l4] (.int x :: st) h = zrun zP sv C 153 36 [l0, l1, l2, l3, .val (.int x)] st h := zx_st hs rfl rfl rfl rfl rfl rfl
theorem zs_153_36 : zrun zP sv C 153 36 [.val (.ref a), l1, l2, l3, l4] st h = zrun zP sv C 153 37 [.val (.ref a), l1, l2, l3, l4] (.ref a :: st) h := zx_go rfl rfl
theorem zs_153_37 : zrun zP sv C 153 37 [l0, l1, l2, l3, .val (.int x)] st h = zrun zP sv C 153 39 [l0, l1, l2, l3, .val (.int x)] (.int x :: st) h := zx_go rfl rfl
theorem zs_153_39 : zrun zP sv C 153 39 [l0, l1, .val (.int x), l3, l4] st h = zrun zP sv C 153 40 [l0, l1, .val (.int x), l3, l4] (.int x :: st) h := zx_go rfl rfl
theorem zs_153_40 : zrun zP sv C 153 40 [.val (.ref a), l1, l2, l3, l4] st h = zrun zP sv C 153 41 [.val (.ref a), l1, l2, l3, l4] (.ref a :: st) h := zx_go rfl rfl
theorem zs_153_41 : zrun zP sv C 153 41 [l0, .val (.int x), l2, l3, l4] st h = zrun zP sv C 153 42 [l0, .val (.int x), l2, l3, l4] (.int x :: st) h := zx_go rfl rfl
theorem zs_153_42 : zrun zP sv C 153 42 [l0, l1, l2, l3, l4] [v1, .ref b, r0, r1, r2] h = zrc (h.1 b) 7 (zbk (C 154 [.ref b, v1] h) (fun v h' => zrun zP sv C 153 45 [l0, l1, l2, l3, l4] (v.toList ++ [r0, r1, r2]) h') (fun E h' => some (.inr E, h'))) := zx_cv (x0 := 7) rfl rfl rfl rfl rfl ⟨Nat.le_of_ble_eq_true rfl, rfl⟩ (fun _ _ => rfl)
theorem zs_153_45 : zrun zP sv C 153 45 [l0, l1, l2, l3, l4] [v3, v2, v1, .ref b] h = zrc (h.1 b) 7 (zbk (C 155 [.ref b, v1, v2, v3] h) (fun v h' => zrun zP sv C 153 48 [l0, l1, l2, l3, l4] (v.toList ++ []) h') (fun E h' => some (.inr E, h'))) := zx_cv (x0 := 7) rfl rfl rfl rfl rfl ⟨Nat.le_of_ble_eq_true rfl, rfl⟩ (fun _ _ => rfl)
theorem zs_153_48 (hs : znw l2 = true) : zrun zP sv C 153 48 [l0, l1, l2, l3, l4] (.int x :: st) h = zrun zP sv C 153 49 [l0, l1, .val (.int x), l3, l4] st h := zx_st hs rfl rfl rfl rfl rfl rfl
theorem zs_153_49 : zrun zP sv C 153 49 [l0, l1, l2, .val (.int x), l4] st h = zrun zP sv C 153 52 [l0, l1, l2, .val (.int (x + (nI 1))), l4] st h := zx_ii rfl rfl rfl rfl rfl
theorem zs_153_52 : zrun zP sv C 153 52 [l0, l1, l2, l3, l4] st h = zrun zP sv C 153 8 [l0, l1, l2, l3, l4] st h := zx_go rfl rfl
theorem zs_153_55 : zrun zP sv C 153 55 [l0, l1, .val (.int x), l3, l4] st h = zrun zP sv C 153 56 [l0, l1, .val (.int x), l3, l4] (.int x :: st) h := zx_go rfl rfl
theorem zs_153_56 : zrun zP sv C 153 56 [l0, l1, l2, l3, l4] [.int x] h = some (.inl (some (.int x)), h) := zx_end rfl rfl
theorem zs_154_0 : zrun zP sv C 154 0 [.val (.ref a), l1, l2, l3, l4] st h = zrun zP sv C 154 1 [.val (.ref a), l1, l2, l3, l4] (.ref a :: st) h := zx_go rfl rfl
theorem zs_154_1 : zrun zP sv C 154 1 [l0, .val (.int x), l2, l3, l4] st h = zrun zP sv C 154 2 [l0, .val (.int x), l2, l3, l4] (.int x :: st) h := zx_go rfl rfl
theorem zs_154_2 : zrun zP sv C 154 2 [l0, l1, l2, l3, l4] [v1, .ref b] h = zrc (h.1 b) 7 (zbk (C 156 [.ref b, v1] h) (fun v h' => zrun zP sv C 154 5 [l0, l1, l2, l3, l4] (v.toList ++ []) h') (fun E h' => some (.inr E, h'))) := zx_cv (x0 := 7) rfl rfl rfl rfl rfl ⟨Nat.le_of_ble_eq_true rfl, rfl⟩ (fun _ _ => rfl)
theorem zs_154_5 (hs : znw l2 = true) : zrun zP sv C 154 5 [l0, l1, l2, l3, l4] (.int x :: st) h = zrun zP sv C 154 6 [l0, l1, .val (.int x), l3, l4] st h := zx_st hs rfl rfl rfl rfl rfl rfl
theorem zs_154_6 : zrun zP sv C 154 6 [l0, l1, l2, l3, l4] st h = zrun zP sv C 154 7 [l0, l1, l2, l3, l4] (.int 0 :: st) h := zx_go rfl rfl
theorem zs_154_7 (hs : znw l3 = true) : zrun zP sv C 154 7 [l0, l1, l2, l3, l4] (.int x :: st) h = zrun zP sv C 154 8 [l0, l1, l2, .val (.int x), l4] st h := zx_st hs rfl rfl rfl rfl rfl rfl
theorem zs_154_8 : zrun zP sv C 154 8 [l0, l1, l2, .val (.int x), l4] st h = zrun zP sv C 154 9 [l0, l1, l2, .val (.int x), l4] (.int x :: st) h := zx_go rfl rfl
theorem zs_154_9 : zrun zP sv C 154 9 [l0, l1, l2, l3, l4] st h = zrun zP sv C 154 11 [l0, l1, l2, l3, l4] (.int (nI 60) :: st) h := zx_go rfl rfl
theorem zs_154_11 : zrun zP sv C 154 11 [l0, l1, l2, l3, l4] (.int y :: .int x :: st) h = if x < y then zrun zP sv C 154 14 [l0, l1, l2, l3, l4] st h else zrun zP sv C 154 55 [l0, l1, l2, l3, l4] st h := (zx_ic rfl rfl).trans zc3_if
theorem zs_154_14 : zrun zP sv C 154 14 [l0, l1, .val (.int x), l3, l4] st h = zrun zP sv C 154 15 [l0, l1, .val (.int x), l3, l4] (.int x :: st) h := zx_go rfl rfl
theorem zs_154_15 : zrun zP sv C 154 15 [l0, l1, l2, l3, l4] st h = zrun zP sv C 154 16 [l0, l1, l2, l3, l4] (.int (-1) :: st) h := zx_go rfl rfl
theorem zs_154_16 : zrun zP sv C 154 16 [l0, l1, l2, l3, l4] (.int y :: .int x :: st) h = if x = y then zrun zP sv C 154 55 [l0, l1, l2, l3, l4] st h else zrun zP sv C 154 19 [l0, l1, l2, l3, l4] st h := (zx_ic rfl rfl).trans zc0_if
theorem zs_154_19 : zrun zP sv C 154 19 [.val (.ref a), l1, l2, l3, l4] st h = zrun zP sv C 154 20 [.val (.ref a), l1, l2, l3, l4] (.ref a :: st) h := zx_go rfl rfl
theorem zs_154_20 : zrun zP sv C 154 20 [l0, l1, l2, l3, l4] st h = zrun zP sv C 154 22 [l0, l1, l2, l3, l4] (.int (nI 42) :: st) h := zx_go rfl rfl
theorem zs_154_22 : zrun zP sv C 154 22 [l0, l1, l2, l3, l4] st h = zrun zP sv C 154 24 [l0, l1, l2, l3, l4] (.int (nI 42) :: st) h := zx_go rfl rfl
theorem zs_154_24 : zrun zP sv C 154 24 [l0, l1, l2, l3, l4] [v2, v1, .ref b] h = zrc (h.1 b) 7 (zbk (C 163 [.ref b, v1, v2] h) (fun v h' => zrun zP sv C 154 27 [l0, l1, l2, l3, l4] (v.toList ++ []) h') (fun E h' => some (.inr E, h'))) := zx_cv (x0 := 7) rfl rfl rfl rfl rfl ⟨Nat.le_of_ble_eq_true rfl, rfl⟩ (fun _ _ => rfl)
theorem zs_154_27 : zrun zP sv C 154 27 [l0, l1, l2, l3, l4] (.int x :: st) h = if x = 0 then zrun zP sv C 154 55 [l0, l1, l2, l3, l4] st h else zrun zP sv C 154 30 [l0, l1, l2, l3, l4] st h := (zx_if rfl rfl).trans zc0_if
theorem zs_154_30 : zrun zP sv C 154 30 [.val (.ref a), l1, l2, l3, l4] st h = zrun zP sv C 154 31 [.val (.ref a), l1, l2, l3, l4] (.ref a :: st) h := zx_go rfl rfl
theorem zs_154_31 : zrun zP sv C 154 31 [l0, l1, l2, l3, l4] [.ref b] h = zrc (h.1 b) 7 (zbk (C 160 [.ref b] h) (fun v h' => zrun zP sv C 154 34 [l0, l1, l2, l3, l4] (v.toList ++ []) h') (fun E h' => some (.inr E, h'))) := zx_cv (x0 := 7) rfl rfl rfl rfl rfl ⟨Nat.le_of_ble_eq_true rfl, rfl⟩ (fun _ _ => rfl)
theorem zs_154_34 (hs : znw l4 = true) : zrun zP sv C 154 34 [l0, l1, l2, l3, l4] (.int x :: st) h = zrun zP sv C 154 36 [l0, l1, l2, l3, .val (.int x)] st h := zx_st hs rfl rfl rfl rfl rfl rfl
theorem zs_154_36 : zrun zP sv C 154 36 [.val (.ref a), l1, l2, l3, l4] st h = zrun zP sv C 154 37 [.val (.ref a), l1, l2, l3, l4] (.ref a :: st) h := zx_go rfl rfl
theorem zs_154_37 : zrun zP sv C 154 37 [l0, l1, l2, l3, .val (.int x)] st h = zrun zP sv C 154 39 [l0, l1, l2, l3, .val (.int x)] (.int x :: st) h := zx_go rfl rfl
theorem zs_154_39 : zrun zP sv C 154 39 [l0, l1, .val (.int x), l3, l4] st h = zrun zP sv C 154 40 [l0, l1, .val (.int x), l3, l4] (.int x :: st) h := zx_go rfl rfl
theorem zs_154_40 : zrun zP sv C 154 40 [.val (.ref a), l1, l2, l3, l4] st h = zrun zP sv C 154 41 [.val (.ref a), l1, l2, l3, l4] (.ref a :: st) h := zx_go rfl rfl
theorem zs_154_41 : zrun zP sv C 154 41 [l0, .val (.int x), l2, l3, l4] st h = zrun zP sv C 154 42 [l0, .val (.int x), l2, l3, l4] (.int x :: st) h := zx_go rfl rfl
theorem zs_154_42 : zrun zP sv C 154 42 [l0, l1, l2, l3, l4] [v1, .ref b, r0, r1, r2] h = zrc (h.1 b) 7 (zbk (C 156 [.ref b, v1] h) (fun v h' => zrun zP sv C 154 45 [l0, l1, l2, l3, l4] (v.toList ++ [r0, r1, r2]) h') (fun E h' => some (.inr E, h'))) := zx_cv (x0 := 7) rfl rfl rfl rfl rfl ⟨Nat.le_of_ble_eq_true rfl, rfl⟩ (fun _ _ => rfl)
theorem zs_154_45 : zrun zP sv C 154 45 [l0, l1, l2, l3, l4] [v3, v2, v1, .ref b] h = zrc (h.1 b) 7 (zbk (C 155 [.ref b, v1, v2, v3] h) (fun v h' => zrun zP sv C 154 48 [l0, l1, l2, l3, l4] (v.toList ++ []) h') (fun E h' => some (.inr E, h'))) := zx_cv (x0 := 7) rfl rfl rfl rfl rfl ⟨Nat.le_of_ble_eq_true rfl, rfl⟩ (fun _ _ => rfl)
theorem zs_154_48 (hs : znw l2 = true) : zrun zP sv C 154 48 [l0, l1, l2, l3, l4] (.int x :: st) h = zrun zP sv C 154 49 [l0, l1, .val (.int x), l3, l4] st h := zx_st hs rfl rfl rfl rfl rfl rfl
theorem zs_154_49 : zrun zP sv C 154 49 [l0, l1, l2, .val (.int x), l4] st h = zrun zP sv C 154 52 [l0, l1, l2, .val (.int (x + (nI 1))), l4] st h := zx_ii rfl rfl rfl rfl rfl
theorem zs_154_52 : zrun zP sv C 154 52 [l0, l1, l2, l3, l4] st h = zrun zP sv C 154 8 [l0, l1, l2, l3, l4] st h := zx_go rfl rfl
theorem zs_154_55 : zrun zP sv C 154 55 [l0, l1, .val (.int x), l3, l4] st h = zrun zP sv C 154 56 [l0, l1, .val (.int x), l3, l4] (.int x :: st) h := zx_go rfl rfl
theorem zs_154_56 : zrun zP sv C 154 56 [l0, l1, l2, l3, l4] [.int x] h = some (.inl (some (.int x)), h) := zx_end rfl rfl
theorem zs_155_0 : zrun zP sv C 155 0 [l0, l1, l2, .val (.int x)] st h = zrun zP sv C 155 1 [l0, l1, l2, .val (.int x)] (.int x :: st) h := zx_go rfl rfl
theorem zs_155_1 : zrun zP sv C 155 1 [l0, l1, l2, l3] st h = zrun zP sv C 155 2 [l0, l1, l2, l3] (.int (-1) :: st) h := zx_go rfl rfl
theorem zs_155_2 : zrun zP sv C 155 2 [l0, l1, l2, l3] (.int y :: .int x :: st) h = if x = y then zrun zP sv C 155 5 [l0, l1, l2, l3] st h else zrun zP sv C 155 9 [l0, l1, l2, l3] st h := (zx_ic rfl rfl).trans zc1_if
theorem zs_155_5 : zrun zP sv C 155 5 [l0, l1, l2, l3] st h = zrun zP sv C 155 6 [l0, l1, l2, l3] (.int (-1) :: st) h := zx_go rfl rfl
theorem zs_155_6 : zrun zP sv C 155 6 [l0, l1, l2, l3] st h = zrun zP sv C 155 19 [l0, l1, l2, l3] st h := zx_go rfl rfl
theorem zs_155_9 : zrun zP sv C 155 9 [.val (.ref a), l1, l2, l3] st h = zrun zP sv C 155 10 [.val (.ref a), l1, l2, l3] (.ref a :: st) h := zx_go rfl rfl
theorem zs_155_10 : zrun zP sv C 155 10 [l0, l1, l2, l3] (.ref a :: st) h = zfld (h.1 a) 7 1 (fun v => zrun zP sv C 155 13 [l0, l1, l2, l3] (v :: st) h) := zx_getf rfl rfl
theorem zs_155_13 : zrun zP sv C 155 13 [l0, .val (.int x), l2, l3] st h = zrun zP sv C 155 14 [l0, .val (.int x), l2, l3] (.int x :: st) h := zx_go rfl rfl
theorem zs_155_14 : zrun zP sv C 155 14 [l0, l1, .val (.int x), l3] st h = zrun zP sv C 155 15 [l0, l1, .val (.int x), l3] (.int x :: st) h := zx_go rfl rfl
theorem zs_155_15 : zrun zP sv C 155 15 [l0, l1, l2, .val (.int x)] st h = zrun zP sv C 155 16 [l0, l1, l2, .val (.int x)] (.int x :: st) h := zx_go rfl rfl
theorem zs_155_16 : zrun zP sv C 155 16 [l0, l1, l2, l3] [v3, v2, v1, .ref b] h = zrc (h.1 b) 6 (zbk (C 194 [.ref b, v1, v2, v3] h) (fun v h' => zrun zP sv C 155 19 [l0, l1, l2, l3] (v.toList ++ []) h') (fun E h' => some (.inr E, h'))) := zx_cv (x0 := 6) rfl rfl rfl rfl rfl ⟨Nat.le_of_ble_eq_true rfl, rfl⟩ (fun _ _ => rfl)
theorem zs_155_19 : zrun zP sv C 155 19 [l0, l1, l2, l3] [.int x] h = some (.inl (some (.int x)), h) := zx_end rfl rfl
theorem zs_156_0 : zrun zP sv C 156 0 [l0, l1, l2, l3, l4] st h = zrun zP sv C 156 1 [l0, l1, l2, l3, l4] (.int 0 :: st) h := zx_go rfl rfl
theorem zs_156_1 (hs : znw l2 = true) : zrun zP sv C 156 1 [l0, l1, l2, l3, l4] (.int x :: st) h = zrun zP sv C 156 2 [l0, l1, .val (.int x), l3, l4] st h := zx_st hs rfl rfl rfl rfl rfl rfl
theorem zs_156_2 : zrun zP sv C 156 2 [l0, l1, .val (.int x), l3, l4] st h = zrun zP sv C 156 3 [l0, l1, .val (.int x), l3, l4] (.int x :: st) h := zx_go rfl rfl
theorem zs_156_3 : zrun zP sv C 156 3 [l0, l1, l2, l3, l4] st h = zrun zP sv C 156 5 [l0, l1, l2, l3, l4] (.int (nI 6) :: st) h := zx_go rfl rfl
theorem zs_156_5 : zrun zP sv C 156 5 [l0, l1, l2, l3, l4] (.int y :: .int x :: st) h = if x < y then zrun zP sv C 156 8 [l0, l1, l2, l3, l4] st h else zrun zP sv C 156 40 [l0, l1, l2, l3, l4] st h := (zx_ic rfl rfl).trans zc3_if
theorem zs_156_8 : zrun zP sv C 156 8 [.val (.ref a), l1, l2, l3, l4] st h = zrun zP sv C 156 9 [.val (.ref a), l1, l2, l3, l4] (.ref a :: st) h := zx_go rfl rfl
theorem zs_156_9 : zrun zP sv C 156 9 [l0, l1, l2, l3, l4] (.ref a :: st) h = zfld (h.1 a) 7 0 (fun v => zrun zP sv C 156 12 [l0, l1, l2, l3, l4] (v :: st) h) := zx_getf rfl rfl
theorem zs_156_12 : zrun zP sv C 156 12 [.val (.ref a), l1, l2, l3, l4] st h = zrun zP sv C 156 13 [.val (.ref a), l1, l2, l3, l4] (.ref a :: st) h := zx_go rfl rfl
theorem zs_156_13 : zrun zP sv C 156 13 [l0, l1, l2, l3, l4] (.ref a :: st) h = zfld (h.1 a) 7 2 (fun v => zrun zP sv C 156 16 [l0, l1, l2, l3, l4] (v :: st) h) := zx_getf rfl rfl
theorem zs_156_16 : zrun zP sv C 156 16 [l0, l1, l2, l3, l4] [v1, .ref b] h = zrc (h.1 b) 8 (zbk (C 141 [.ref b, v1] h) (fun v h' => zrun zP sv C 156 19 [l0, l1, l2, l3, l4] (v.toList ++ []) h') (fun E h' => some (.inr E, h'))) := zx_cv (x0 := 8) rfl rfl rfl rfl rfl ⟨Nat.le_of_ble_eq_true rfl, rfl⟩ (fun _ _ => rfl)
theorem zs_156_19 : zrun zP sv C 156 19 [l0, l1, l2, l3, l4] st h = zrun zP sv C 156 21 [l0, l1, l2, l3, l4] (.int (nI 45) :: st) h := zx_go rfl rfl
theorem zs_156_21 : zrun zP sv C 156 21 [l0, l1, l2, l3, l4] (.int y :: .int x :: st) h = if x = y then zrun zP sv C 156 24 [l0, l1, l2, l3, l4] st h else zrun zP sv C 156 40 [l0, l1, l2, l3, l4] st h := (zx_ic rfl rfl).trans zc1_if
theorem zs_156_24 : zrun zP sv C 156 24 [l0, l1, .val (.int x), l3, l4] st h = zrun zP sv C 156 27 [l0, l1, .val (.int (x + (nI 1))), l3, l4] st h := zx_ii rfl rfl rfl rfl rfl
theorem zs_156_27 : zrun zP sv C 156 27 [.val (.ref a), l1, l2, l3, l4] st h = zrun zP sv C 156 28 [.val (.ref a), l1, l2, l3, l4] (.ref a :: st) h := zx_go rfl rfl
theorem zs_156_28 : zrun zP sv C 156 28 [l0, l1, l2, l3, l4] (.ref a :: st) h = zrun zP sv C 156 29 [l0, l1, l2, l3, l4] (.ref a :: .ref a :: st) h := zx_go rfl rfl
theorem zs_156_29 : zrun zP sv C 156 29 [l0, l1, l2, l3, l4] (.ref a :: st) h = zfld (h.1 a) 7 2 (fun v => zrun zP sv C 156 32 [l0, l1, l2, l3, l4] (v :: st) h) := zx_getf rfl rfl
theorem zs_156_32 : zrun zP sv C 156 32 [l0, l1, l2, l3, l4] st h = zrun zP sv C 156 33 [l0, l1, l2, l3, l4] (.int (nI 1) :: st) h := zx_go rfl rfl
theorem zs_156_33 : zrun zP sv C 156 33 [l0, l1, l2, l3, l4] (.int y :: .int x :: st) h = zrun zP sv C 156 34 [l0, l1, l2, l3, l4] (.int (x + y) :: st) h := zx_go rfl rfl
theorem zs_156_34 : zrun zP sv C 156 34 [l0, l1, l2, l3, l4] (.int x :: .ref a :: st) h = zpfd (h.1 a) 7 2 0 (.int x) (fun c => zrun zP sv C 156 37 [l0, l1, l2, l3, l4] st (zup h a c)) := zx_putf (x0 := 0) rfl rfl
theorem zs_156_37 : zrun zP sv C 156 37 [l0, l1, l2, l3, l4] st h = zrun zP sv C 156 2 [l0, l1, l2, l3, l4] st h := zx_go rfl rfl
theorem zs_156_40 : zrun zP sv C 156 40 [.val (.ref a), l1, l2, l3, l4] st h = zrun zP sv C 156 41 [.val (.ref a), l1, l2, l3, l4] (.ref a :: st) h := zx_go rfl rfl
theorem zs_156_41 : zrun zP sv C 156 41 [l0, .val (.int x), l2, l3, l4] st h = zrun zP sv C 156 42 [l0, .val (.int x), l2, l3, l4] (.int x :: st) h := zx_go rfl rfl
theorem zs_156_42 : zrun zP sv C 156 42 [l0, l1, l2, l3, l4] [v1, .ref b] h = zrc (h.1 b) 7 (zbk (C 157 [.ref b, v1] h) (fun v h' => zrun zP sv C 156 45 [l0, l1, l2, l3, l4] (v.toList ++ []) h') (fun E h' => some (.inr E, h'))) := zx_cv (x0 := 7) rfl rfl rfl rfl rfl ⟨Nat.le_of_ble_eq_true rfl, rfl⟩ (fun _ _ => rfl)
theorem zs_156_45 (hs : znw l3 = true) : zrun zP sv C 156 45 [l0, l1, l2, l3, l4] (.int x :: st) h = zrun zP sv C 156 46 [l0, l1, l2, .val (.int x), l4] st h := zx_st hs rfl rfl rfl rfl rfl rfl
theorem zs_156_46 : zrun zP sv C 156 46 [l0, l1, l2, l3, l4] st h = zrun zP sv C 156 47 [l0, l1, l2, l3, l4] (.int 0 :: st) h := zx_go rfl rfl
theorem zs_156_47 (hs : znw l4 = true) : zrun zP sv C 156 47 [l0, l1, l2, l3, l4] (.int x :: st) h = zrun zP sv C 156 49 [l0, l1, l2, l3, .val (.int x)] st h := zx_st hs rfl rfl rfl rfl rfl rfl
theorem zs_156_49 : zrun zP sv C 156 49 [l0, l1, l2, l3, .val (.int x)] st h = zrun zP sv C 156 51 [l0, l1, l2, l3, .val (.int x)] (.int x :: st) h := zx_go rfl rfl
theorem zs_156_51 : zrun zP sv C 156 51 [l0, l1, .val (.int x), l3, l4] st h = zrun zP sv C 156 52 [l0, l1, .val (.int x), l3, l4] (.int x :: st) h := zx_go rfl rfl
theorem zs_156_52 : zrun zP sv C 156 52 [l0, l1, l2, l3, l4] (.int y :: .int x :: st) h = if x < y then zrun zP sv C 156 55 [l0, l1, l2, l3, l4] st h else zrun zP sv C 156 75 [l0, l1, l2, l3, l4] st h := (zx_ic rfl rfl).trans zc3_if
theorem zs_156_55 : zrun zP sv C 156 55 [l0, l1, l2, .val (.int x), l4] st h = zrun zP sv C 156 56 [l0, l1, l2, .val (.int x), l4] (.int x :: st) h := zx_go rfl rfl
theorem zs_156_56 : zrun zP sv C 156 56 [l0, l1, l2, l3, l4] st h = zrun zP sv C 156 57 [l0, l1, l2, l3, l4] (.int (-1) :: st) h := zx_go rfl rfl
theorem zs_156_57 : zrun zP sv C 156 57 [l0, l1, l2, l3, l4] (.int y :: .int x :: st) h = if x = y then zrun zP sv C 156 75 [l0, l1, l2, l3, l4] st h else zrun zP sv C 156 60 [l0, l1, l2, l3, l4] st h := (zx_ic rfl rfl).trans zc0_if
theorem zs_156_60 : zrun zP sv C 156 60 [.val (.ref a), l1, l2, l3, l4] st h = zrun zP sv C 156 61 [.val (.ref a), l1, l2, l3, l4] (.ref a :: st) h := zx_go rfl rfl
theorem zs_156_61 : zrun zP sv C 156 61 [l0, l1, l2, l3, l4] (.ref a :: st) h = zfld (h.1 a) 7 1 (fun v => zrun zP sv C 156 64 [l0, l1, l2, l3, l4] (v :: st) h) := zx_getf rfl rfl
theorem zs_156_64 : zrun zP sv C 156 64 [l0, l1, l2, .val (.int x), l4] st h = zrun zP sv C 156 65 [l0, l1, l2, .val (.int x), l4] (.int x :: st) h := zx_go rfl rfl
theorem zs_156_65 : zrun zP sv C 156 65 [l0, l1, l2, l3, l4] [v1, .ref b] h = zrc (h.1 b) 6 (zbk (C 193 [.ref b, v1] h) (fun v h' => zrun zP sv C 156 68 [l0, l1, l2, l3, l4] (v.toList ++ []) h') (fun E h' => some (.inr E, h'))) := zx_cv (x0 := 6) rfl rfl rfl rfl rfl ⟨Nat.le_of_ble_eq_true rfl, rfl⟩ (fun _ _ => rfl)
theorem zs_156_68 (hs : znw l3 = true) : zrun zP sv C 156 68 [l0, l1, l2, l3, l4] (.int x :: st) h = zrun zP sv C 156 69 [l0, l1, l2, .val (.int x), l4] st h := zx_st hs rfl rfl rfl rfl rfl rfl
theorem zs_156_69 : zrun zP sv C 156 69 [l0, l1, l2, l3, .val (.int x)] st h = zrun zP sv C 156 72 [l0, l1, l2, l3, .val (.int (x + (nI 1)))] st h := zx_ii rfl rfl rfl rfl rfl
theorem zs_156_72 : zrun zP sv C 156 72 [l0, l1, l2, l3, l4] st h = zrun zP sv C 156 49 [l0, l1, l2, l3, l4] st h := zx_go rfl rfl
theorem zs_156_75 : zrun zP sv C 156 75 [l0, l1, l2, .val (.int x), l4] st h = zrun zP sv C 156 76 [l0, l1, l2, .val (.int x), l4] (.int x :: st) h := zx_go rfl rfl
theorem zs_156_76 : zrun zP sv C 156 76 [l0, l1, l2, l3, l4] [.int x] h = some (.inl (some (.int x)), h) := zx_end rfl rfl
theorem zs_157_0 : zrun zP sv C 157 0 [.val (.ref a), l1, l2] st h = zrun zP sv C 157 1 [.val (.ref a), l1, l2] (.ref a :: st) h := zx_go rfl rfl
theorem zs_157_1 : zrun zP sv C 157 1 [l0, l1, l2] (.ref a :: st) h = zfld (h.1 a) 7 0 (fun v => zrun zP sv C 157 4 [l0, l1, l2] (v :: st) h) := zx_getf rfl rfl
theorem zs_157_4 : zrun zP sv C 157 4 [.val (.ref a), l1, l2] st h = zrun zP sv C 157 5 [.val (.ref a), l1, l2] (.ref a :: st) h := zx_go rfl rfl
theorem zs_157_5 : zrun zP sv C 157 5 [l0, l1, l2] (.ref a :: st) h = zfld (h.1 a) 7 2 (fun v => zrun zP sv C 157 8 [l0, l1, l2] (v :: st) h) := zx_getf rfl rfl
theorem zs_157_8 : zrun zP sv C 157 8 [l0, l1, l2] [v1, .ref b] h = zrc (h.1 b) 8 (zbk (C 141 [.ref b, v1] h) (fun v h' => zrun zP sv C 157 11 [l0, l1, l2] (v.toList ++ []) h') (fun E h' => some (.inr E, h'))) := zx_cv (x0 := 8) rfl rfl rfl rfl rfl ⟨Nat.le_of_ble_eq_true rfl, rfl⟩ (fun _ _ => rfl)
theorem zs_157_11 (hs : znw l2 = true) : zrun zP sv C 157 11 [l0, l1, l2] (.int x :: st) h = zrun zP sv C 157 12 [l0, l1, .val (.int x)] st h := zx_st hs rfl rfl rfl rfl rfl rfl
theorem zs_157_12 : zrun zP sv C 157 12 [l0, l1, .val (.int x)] st h = zrun zP sv C 157 13 [l0, l1, .val (.int x)] (.int x :: st) h := zx_go rfl rfl
theorem zs_157_13 : zrun zP sv C 157 13 [l0, l1, l2] st h = zrun zP sv C 157 15 [l0, l1, l2] (.int (nI 40) :: st) h := zx_go rfl rfl
theorem zs_157_15 : zrun zP sv C 157 15 [l0, l1, l2] (.int y :: .int x :: st) h = if x = y then zrun zP sv C 157 18 [l0, l1, l2] st h else zrun zP sv C 157 30 [l0, l1, l2] st h := (zx_ic rfl rfl).trans zc1_if
theorem zs_157_18 : zrun zP sv C 157 18 [l0, .val (.int x), l2] st h = zrun zP sv C 157 19 [l0, .val (.int x), l2] (.int x :: st) h := zx_go rfl rfl
theorem zs_157_19 : zrun zP sv C 157 19 [l0, l1, l2] st h = zrun zP sv C 157 21 [l0, l1, l2] (.int (nI 6) :: st) h := zx_go rfl rfl
theorem zs_157_21 : zrun zP sv C 157 21 [l0, l1, l2] (.int y :: .int x :: st) h = if x < y then zrun zP sv C 157 24 [l0, l1, l2] st h else zrun zP sv C 157 30 [l0, l1, l2] st h := (zx_ic rfl rfl).trans zc3_if
theorem zs_157_24 : zrun zP sv C 157 24 [.val (.ref a), l1, l2] st h = zrun zP sv C 157 25 [.val (.ref a), l1, l2] (.ref a :: st) h := zx_go rfl rfl
theorem zs_157_25 : zrun zP sv C 157 25 [l0, .val (.int x), l2] st h = zrun zP sv C 157 26 [l0, .val (.int x), l2] (.int x :: st) h := zx_go rfl rfl
theorem zs_157_26 : zrun zP sv C 157 26 [l0, l1, l2] [v1, .ref b] h = zrc (h.1 b) 7 (zbk (C 158 [.ref b, v1] h) (fun v h' => zrun zP sv C 157 29 [l0, l1, l2] (v.toList ++ []) h') (fun E h' => some (.inr E, h'))) := zx_cv (x0 := 7) rfl rfl rfl rfl rfl ⟨Nat.le_of_ble_eq_true rfl, rfl⟩ (fun _ _ => rfl)
theorem zs_157_29 : zrun zP sv C 157 29 [l0, l1, l2] [.int x] h = some (.inl (some (.int x)), h) := zx_end rfl rfl
theorem zs_157_30 : zrun zP sv C 157 30 [l0, l1, .val (.int x)] st h = zrun zP sv C 157 31 [l0, l1, .val (.int x)] (.int x :: st) h := zx_go rfl rfl
theorem zs_157_31 : zrun zP sv C 157 31 [l0, l1, l2] st h = zrun zP sv C 157 33 [l0, l1, l2] (.int (nI 97) :: st) h := zx_go rfl rfl
theorem zs_157_33 : zrun zP sv C 157 33 [l0, l1, l2] (.int y :: .int x :: st) h = if x < y then zrun zP sv C 157 65 [l0, l1, l2] st h else zrun zP sv C 157 36 [l0, l1, l2] st h := (zx_ic rfl rfl).trans zc2_if
theorem zs_157_36 : zrun zP sv C 157 36 [l0, l1, .val (.int x)] st h = zrun zP sv C 157 37 [l0, l1, .val (.int x)] (.int x :: st) h := zx_go rfl rfl
theorem zs_157_37 : zrun zP sv C 157 37 [l0, l1, l2] st h = zrun zP sv C 157 39 [l0, l1, l2] (.int (nI 102) :: st) h := zx_go rfl rfl
theorem zs_157_39 : zrun zP sv C 157 39 [l0, l1, l2] (.int y :: .int x :: st) h = if y < x then zrun zP sv C 157 65 [l0, l1, l2] st h else zrun zP sv C 157 42 [l0, l1, l2] st h := (zx_ic rfl rfl).trans zc4_if
theorem zs_157_42 : zrun zP sv C 157 42 [.val (.ref a), l1, l2] st h = zrun zP sv C 157 43 [.val (.ref a), l1, l2] (.ref a :: st) h := zx_go rfl rfl
theorem zs_157_43 : zrun zP sv C 157 43 [l0, l1, l2] (.ref a :: st) h = zrun zP sv C 157 44 [l0, l1, l2] (.ref a :: .ref a :: st) h := zx_go rfl rfl
theorem zs_157_44 : zrun zP sv C 157 44 [l0, l1, l2] (.ref a :: st) h = zfld (h.1 a) 7 2 (fun v => zrun zP sv C 157 47 [l0, l1, l2] (v :: st) h) := zx_getf rfl rfl
theorem zs_157_47 : zrun zP sv C 157 47 [l0, l1, l2] st h = zrun zP sv C 157 48 [l0, l1, l2] (.int (nI 1) :: st) h := zx_go rfl rfl
theorem zs_157_48 : zrun zP sv C 157 48 [l0, l1, l2] (.int y :: .int x :: st) h = zrun zP sv C 157 49 [l0, l1, l2] (.int (x + y) :: st) h := zx_go rfl rfl
theorem zs_157_49 : zrun zP sv C 157 49 [l0, l1, l2] (.int x :: .ref a :: st) h = zpfd (h.1 a) 7 2 0 (.int x) (fun c => zrun zP sv C 157 52 [l0, l1, l2] st (zup h a c)) := zx_putf (x0 := 0) rfl rfl
theorem zs_157_52 : zrun zP sv C 157 52 [.val (.ref a), l1, l2] st h = zrun zP sv C 157 53 [.val (.ref a), l1, l2] (.ref a :: st) h := zx_go rfl rfl
theorem zs_157_53 : zrun zP sv C 157 53 [l0, l1, l2] (.ref a :: st) h = zfld (h.1 a) 7 1 (fun v => zrun zP sv C 157 56 [l0, l1, l2] (v :: st) h) := zx_getf rfl rfl
theorem zs_157_56 : zrun zP sv C 157 56 [l0, l1, l2] st h = zrun zP sv C 157 58 [l0, l1, l2] (.int (nI 118) :: st) h := zx_go rfl rfl
theorem zs_157_58 : zrun zP sv C 157 58 [l0, l1, .val (.int x)] st h = zrun zP sv C 157 59 [l0, l1, .val (.int x)] (.int x :: st) h := zx_go rfl rfl
theorem zs_157_59 : zrun zP sv C 157 59 [l0, l1, l2] st h = zrun zP sv C 157 60 [l0, l1, l2] (.int (-1) :: st) h := zx_go rfl rfl
theorem zs_157_60 : zrun zP sv C 157 60 [l0, l1, l2] st h = zrun zP sv C 157 61 [l0, l1, l2] (.int (-1) :: st) h := zx_go rfl rfl
theorem zs_157_61 : zrun zP sv C 157 61 [l0, l1, l2] [v4, v3, v2, v1, .ref b] h = zrc (h.1 b) 6 (zbk (C 191 [.ref b, v1, v2, v3, v4] h) (fun v h' => zrun zP sv C 157 64 [l0, l1, l2] (v.toList ++ []) h') (fun E h' => some (.inr E, h'))) := zx_cv (x0 := 6) rfl rfl rfl rfl rfl ⟨Nat.le_of_ble_eq_true rfl, rfl⟩ (fun _ _ => rfl)
theorem zs_157_64 : zrun zP sv C 157 64 [l0, l1, l2] [.int x] h = some (.inl (some (.int x)), h) := zx_end rfl rfl
theorem zs_157_65 : zrun zP sv C 157 65 [.val (.ref a), l1, l2] st h = zrun zP sv C 157 66 [.val (.ref a), l1, l2] (.ref a :: st) h := zx_go rfl rfl
theorem zs_157_66 : zrun zP sv C 157 66 [l0, l1, l2] [.ref b] h = zrc (h.1 b) 7 (zbk (C 162 [.ref b] h) (fun v h' => zrun zP sv C 157 69 [l0, l1, l2] (v.toList ++ []) h') (fun E h' => some (.inr E, h'))) := zx_cv (x0 := 7) rfl rfl rfl rfl rfl ⟨Nat.le_of_ble_eq_true rfl, rfl⟩ (fun _ _ => rfl)
theorem zs_157_69 : zrun zP sv C 157 69 [l0, l1, l2] (.int x :: st) h = if x = 0 then zrun zP sv C 157 79 [l0, l1, l2] st h else zrun zP sv C 157 72 [l0, l1, l2] st h := (zx_if rfl rfl).trans zc0_if
theorem zs_157_72 : zrun zP sv C 157 72 [.val (.ref a), l1, l2] st h = zrun zP sv C 157 73 [.val (.ref a), l1, l2] (.ref a :: st) h := zx_go rfl rfl
theorem zs_157_73 : zrun zP sv C 157 73 [l0, l1, l2] [.ref b] h = zrc (h.1 b) 7 (zbk (C 159 [.ref b] h) (fun v h' => zrun zP sv C 157 76 [l0, l1, l2] (v.toList ++ []) h') (fun E h' => some (.inr E, h'))) := zx_cv (x0 := 7) rfl rfl rfl rfl rfl ⟨Nat.le_of_ble_eq_true rfl, rfl⟩ (fun _ _ => rfl)
theorem zs_157_76 : zrun zP sv C 157 76 [l0, l1, l2] st h = zrun zP sv C 157 80 [l0, l1, l2] st h := zx_go rfl rfl
theorem zs_157_79 : zrun zP sv C 157 79 [l0, l1, l2] st h = zrun zP sv C 157 80 [l0, l1, l2] (.int (-1) :: st) h := zx_go rfl rfl
theorem zs_157_80 : zrun zP sv C 157 80 [l0, l1, l2] [.int x] h = some (.inl (some (.int x)), h) := zx_end rfl rfl
theorem zs_158_0 : zrun zP sv C 158 0 [.val (.ref a), l1, l2] st h = zrun zP sv C 158 1 [.val (.ref a), l1, l2] (.ref a :: st) h := zx_go rfl rfl
theorem zs_158_1 : zrun zP sv C 158 1 [l0, l1, l2] (.ref a :: st) h = zrun zP sv C 158 2 [l0, l1, l2] (.ref a :: .ref a :: st) h := zx_go rfl rfl
theorem zs_158_2 : zrun zP sv C 158 2 [l0, l1, l2] (.ref a :: st) h = zfld (h.1 a) 7 2 (fun v => zrun zP sv C 158 5 [l0, l1, l2] (v :: st) h) := zx_getf rfl rfl
theorem zs_158_5 : zrun zP sv C 158 5 [l0, l1, l2] st h = zrun zP sv C 158 6 [l0, l1, l2] (.int (nI 1) :: st) h := zx_go rfl rfl
theorem zs_158_6 : zrun zP sv C 158 6 [l0, l1, l2] (.int y :: .int x :: st) h = zrun zP sv C 158 7 [l0, l1, l2] (.int (x + y) :: st) h := zx_go rfl rfl
theorem zs_158_7 : zrun zP sv C 158 7 [l0, l1, l2] (.int x :: .ref a :: st) h = zpfd (h.1 a) 7 2 0 (.int x) (fun c => zrun zP sv C 158 10 [l0, l1, l2] st (zup h a c)) := zx_putf (x0 := 0) rfl rfl
theorem zs_158_10 : zrun zP sv C 158 10 [.val (.ref a), l1, l2] st h = zrun zP sv C 158 11 [.val (.ref a), l1, l2] (.ref a :: st) h := zx_go rfl rfl
theorem zs_158_11 : zrun zP sv C 158 11 [l0, .val (.int x), l2] st h = zrun zP sv C 158 12 [l0, .val (.int x), l2] (.int x :: st) h := zx_go rfl rfl
theorem zs_158_12 : zrun zP sv C 158 12 [l0, l1, l2] st h = zrun zP sv C 158 13 [l0, l1, l2] (.int (nI 1) :: st) h := zx_go rfl rfl
theorem zs_158_13 : zrun zP sv C 158 13 [l0, l1, l2] (.int y :: .int x :: st) h = zrun zP sv C 158 14 [l0, l1, l2] (.int (x + y) :: st) h := zx_go rfl rfl
theorem zs_158_14 : zrun zP sv C 158 14 [l0, l1, l2] [v1, .ref b] h = zrc (h.1 b) 7 (zbk (C 153 [.ref b, v1] h) (fun v h' => zrun zP sv C 158 17 [l0, l1, l2] (v.toList ++ []) h') (fun E h' => some (.inr E, h'))) := zx_cv (x0 := 7) rfl rfl rfl rfl rfl ⟨Nat.le_of_ble_eq_true rfl, rfl⟩ (fun _ _ => rfl)
theorem zs_158_17 (hs : znw l2 = true) : zrun zP sv C 158 17 [l0, l1, l2] (.int x :: st) h = zrun zP sv C 158 18 [l0, l1, .val (.int x)] st h := zx_st hs rfl rfl rfl rfl rfl rfl
theorem zs_158_18 : zrun zP sv C 158 18 [l0, l1, .val (.int x)] st h = zrun zP sv C 158 19 [l0, l1, .val (.int x)] (.int x :: st) h := zx_go rfl rfl
theorem zs_158_19 : zrun zP sv C 158 19 [l0, l1, l2] st h = zrun zP sv C 158 20 [l0, l1, l2] (.int (-1) :: st) h := zx_go rfl rfl
theorem zs_158_20 : zrun zP sv C 158 20 [l0, l1, l2] (.int y :: .int x :: st) h = if x = y then zrun zP sv C 158 39 [l0, l1, l2] st h else zrun zP sv C 158 23 [l0, l1, l2] st h := (zx_ic rfl rfl).trans zc0_if
theorem zs_158_23 : zrun zP sv C 158 23 [.val (.ref a), l1, l2] st h = zrun zP sv C 158 24 [.val (.ref a), l1, l2] (.ref a :: st) h := zx_go rfl rfl
theorem zs_158_24 : zrun zP sv C 158 24 [l0, l1, l2] (.ref a :: st) h = zfld (h.1 a) 7 0 (fun v => zrun zP sv C 158 27 [l0, l1, l2] (v :: st) h) := zx_getf rfl rfl
theorem zs_158_27 : zrun zP sv C 158 27 [.val (.ref a), l1, l2] st h = zrun zP sv C 158 28 [.val (.ref a), l1, l2] (.ref a :: st) h := zx_go rfl rfl
theorem zs_158_28 : zrun zP sv C 158 28 [l0, l1, l2] (.ref a :: st) h = zfld (h.1 a) 7 2 (fun v => zrun zP sv C 158 31 [l0, l1, l2] (v :: st) h) := zx_getf rfl rfl
theorem zs_158_31 : zrun zP sv C 158 31 [l0, l1, l2] [v1, .ref b] h = zrc (h.1 b) 8 (zbk (C 141 [.ref b, v1] h) (fun v h' => zrun zP sv C 158 34 [l0, l1, l2] (v.toList ++ []) h') (fun E h' => some (.inr E, h'))) := zx_cv (x0 := 8) rfl rfl rfl rfl rfl ⟨Nat.le_of_ble_eq_true rfl, rfl⟩ (fun _ _ => rfl)
theorem zs_158_34 : zrun zP sv C 158 34 [l0, l1, l2] st h = zrun zP sv C 158 36 [l0, l1, l2] (.int (nI 41) :: st) h := zx_go rfl rfl
theorem zs_158_36 : zrun zP sv C 158 36 [l0, l1, l2] (.int y :: .int x :: st) h = if x = y then zrun zP sv C 158 41 [l0, l1, l2] st h else zrun zP sv C 158 39 [l0, l1, l2] st h := (zx_ic rfl rfl).trans zc0_if
theorem zs_158_39 : zrun zP sv C 158 39 [l0, l1, l2] st h = zrun zP sv C 158 40 [l0, l1, l2] (.int (-1) :: st) h := zx_go rfl rfl
theorem zs_158_40 : zrun zP sv C 158 40 [l0, l1, l2] [.int x] h = some (.inl (some (.int x)), h) := zx_end rfl rfl
theorem zs_158_41 : zrun zP sv C 158 41 [.val (.ref a), l1, l2] st h = zrun zP sv C 158 42 [.val (.ref a), l1, l2] (.ref a :: st) h := zx_go rfl rfl
theorem zs_158_42 : zrun zP sv C 158 42 [l0, l1, l2] (.ref a :: st) h = zrun zP sv C 158 43 [l0, l1, l2] (.ref a :: .ref a :: st) h := zx_go rfl rfl
theorem zs_158_43 : zrun zP sv C 158 43 [l0, l1, l2] (.ref a :: st) h = zfld (h.1 a) 7 2 (fun v => zrun zP sv C 158 46 [l0, l1, l2] (v :: st) h) := zx_getf rfl rfl
theorem zs_158_46 : zrun zP sv C 158 46 [l0, l1, l2] st h = zrun zP sv C 158 47 [l0, l1, l2] (.int (nI 1) :: st) h := zx_go rfl rfl
theorem zs_158_47 : zrun zP sv C 158 47 [l0, l1, l2] (.int y :: .int x :: st) h = zrun zP sv C 158 48 [l0, l1, l2] (.int (x + y) :: st) h := zx_go rfl rfl
theorem zs_158_48 : zrun zP sv C 158 48 [l0, l1, l2] (.int x :: .ref a :: st) h = zpfd (h.1 a) 7 2 0 (.int x) (fun c => zrun zP sv C 158 51 [l0, l1, l2] st (zup h a c)) := zx_putf (x0 := 0) rfl rfl
theorem zs_158_51 : zrun zP sv C 158 51 [l0, l1, .val (.int x)] st h = zrun zP sv C 158 52 [l0, l1, .val (.int x)] (.int x :: st) h := zx_go rfl rfl
theorem zs_158_52 : zrun zP sv C 158 52 [l0, l1, l2] [.int x] h = some (.inl (some (.int x)), h) := zx_end rfl rfl
theorem zs_159_0 : zrun zP sv C 159 0 [.val (.ref a), l1] st h = zrun zP sv C 159 1 [.val (.ref a), l1] (.ref a :: st) h := zx_go rfl rfl
theorem zs_159_1 : zrun zP sv C 159 1 [l0, l1] [.ref b] h = zrc (h.1 b) 7 (zbk (C 161 [.ref b] h) (fun v h' => zrun zP sv C 159 4 [l0, l1] (v.toList ++ []) h') (fun E h' => some (.inr E, h'))) := zx_cv (x0 := 7) rfl rfl rfl rfl rfl ⟨Nat.le_of_ble_eq_true rfl, rfl⟩ (fun _ _ => rfl)
theorem zs_159_4 (hs : znw l1 = true) : zrun zP sv C 159 4 [l0, l1] (.int x :: st) h = zrun zP sv C 159 5 [l0, .val (.int x)] st h := zx_st hs rfl rfl rfl rfl rfl rfl
theorem zs_159_5 : zrun zP sv C 159 5 [.val (.ref a), l1] st h = zrun zP sv C 159 6 [.val (.ref a), l1] (.ref a :: st) h := zx_go rfl rfl
theorem zs_159_6 : zrun zP sv C 159 6 [l0, l1] [.ref b] h = zrc (h.1 b) 7 (zbk (C 162 [.ref b] h) (fun v h' => zrun zP sv C 159 9 [l0, l1] (v.toList ++ []) h') (fun E h' => some (.inr E, h'))) := zx_cv (x0 := 7) rfl rfl rfl rfl rfl ⟨Nat.le_of_ble_eq_true rfl, rfl⟩ (fun _ _ => rfl)
theorem zs_159_9 : zrun zP sv C 159 9 [l0, l1] (.int x :: st) h = if x = 0 then zrun zP sv C 159 22 [l0, l1] st h else zrun zP sv C 159 12 [l0, l1] st h := (zx_if rfl rfl).trans zc0_if
theorem zs_159_12 : zrun zP sv C 159 12 [l0, l1] st h = zrun zP sv C 159 14 [l0, l1] (.int (nI 10) :: st) h := zx_go rfl rfl
theorem zs_159_14 : zrun zP sv C 159 14 [l0, .val (.int x)] st h = zrun zP sv C 159 15 [l0, .val (.int x)] (.int x :: st) h := zx_go rfl rfl
theorem zs_159_15 : zrun zP sv C 159 15 [l0, l1] (.int y :: .int x :: st) h = zrun zP sv C 159 16 [l0, l1] (.int (x * y) :: st) h := zx_go rfl rfl
theorem zs_159_16 : zrun zP sv C 159 16 [.val (.ref a), l1] st h = zrun zP sv C 159 17 [.val (.ref a), l1] (.ref a :: st) h := zx_go rfl rfl
theorem zs_159_17 : zrun zP sv C 159 17 [l0, l1] [.ref b, r0] h = zrc (h.1 b) 7 (zbk (C 161 [.ref b] h) (fun v h' => zrun zP sv C 159 20 [l0, l1] (v.toList ++ [r0]) h') (fun E h' => some (.inr E, h'))) := zx_cv (x0 := 7) rfl rfl rfl rfl rfl ⟨Nat.le_of_ble_eq_true rfl, rfl⟩ (fun _ _ => rfl)
theorem zs_159_20 : zrun zP sv C 159 20 [l0, l1] (.int y :: .int x :: st) h = zrun zP sv C 159 21 [l0, l1] (.int (x + y) :: st) h := zx_go rfl rfl
theorem zs_159_21 (hs : znw l1 = true) : zrun zP sv C 159 21 [l0, l1] (.int x :: st) h = zrun zP sv C 159 22 [l0, .val (.int x)] st h := zx_st hs rfl rfl rfl rfl rfl rfl
theorem zs_159_22 : zrun zP sv C 159 22 [.val (.ref a), l1] st h = zrun zP sv C 159 23 [.val (.ref a), l1] (.ref a :: st) h := zx_go rfl rfl
theorem zs_159_23 : zrun zP sv C 159 23 [l0, l1] (.ref a :: st) h = zfld (h.1 a) 7 1 (fun v => zrun zP sv C 159 26 [l0, l1] (v :: st) h) := zx_getf rfl rfl
theorem zs_159_26 : zrun zP sv C 159 26 [l0, .val (.int x)] st h = zrun zP sv C 159 27 [l0, .val (.int x)] (.int x :: st) h := zx_go rfl rfl
theorem zs_159_27 : zrun zP sv C 159 27 [l0, l1] [v1, .ref b] h = zrc (h.1 b) 6 (zbk (C 192 [.ref b, v1] h) (fun v h' => zrun zP sv C 159 30 [l0, l1] (v.toList ++ []) h') (fun E h' => some (.inr E, h'))) := zx_cv (x0 := 6) rfl rfl rfl rfl rfl ⟨Nat.le_of_ble_eq_true rfl, rfl⟩ (fun _ _ => rfl)
theorem zs_159_30 : zrun zP sv C 159 30 [l0, l1] [.int x] h = some (.inl (some (.int x)), h) := zx_end rfl rfl
theorem zs_160_0 : zrun zP sv C 160 0 [.val (.ref a), l1] st h = zrun zP sv C 160 1 [.val (.ref a), l1] (.ref a :: st) h := zx_go rfl rfl
theorem zs_160_1 : zrun zP sv C 160 1 [l0, l1] (.ref a :: st) h = zfld (h.1 a) 7 0 (fun v => zrun zP sv C 160 4 [l0, l1] (v :: st) h) := zx_getf rfl rfl
theorem zs_160_4 : zrun zP sv C 160 4 [.val (.ref a), l1] st h = zrun zP sv C 160 5 [.val (.ref a), l1] (.ref a :: st) h := zx_go rfl rfl
theorem zs_160_5 : zrun zP sv C 160 5 [l0, l1] (.ref a :: st) h = zfld (h.1 a) 7 2 (fun v => zrun zP sv C 160 8 [l0, l1] (v :: st) h) := zx_getf rfl rfl
theorem zs_160_8 : zrun zP sv C 160 8 [l0, l1] [v1, .ref b] h = zrc (h.1 b) 8 (zbk (C 141 [.ref b, v1] h) (fun v h' => zrun zP sv C 160 11 [l0, l1] (v.toList ++ []) h') (fun E h' => some (.inr E, h'))) := zx_cv (x0 := 8) rfl rfl rfl rfl rfl ⟨Nat.le_of_ble_eq_true rfl, rfl⟩ (fun _ _ => rfl)
theorem zs_160_11 (hs : znw l1 = true) : zrun zP sv C 160 11 [l0, l1] (.int x :: st) h = zrun zP sv C 160 12 [l0, .val (.int x)] st h := zx_st hs rfl rfl rfl rfl rfl rfl
theorem zs_160_12 : zrun zP sv C 160 12 [.val (.ref a), l1] st h = zrun zP sv C 160 13 [.val (.ref a), l1] (.ref a :: st) h := zx_go rfl rfl
theorem zs_160_13 : zrun zP sv C 160 13 [l0, l1] (.ref a :: st) h = zrun zP sv C 160 14 [l0, l1] (.ref a :: .ref a :: st) h := zx_go rfl rfl
theorem zs_160_14 : zrun zP sv C 160 14 [l0, l1] (.ref a :: st) h = zfld (h.1 a) 7 2 (fun v => zrun zP sv C 160 17 [l0, l1] (v :: st) h) := zx_getf rfl rfl
theorem zs_160_17 : zrun zP sv C 160 17 [l0, l1] st h = zrun zP sv C 160 18 [l0, l1] (.int (nI 1) :: st) h := zx_go rfl rfl
theorem zs_160_18 : zrun zP sv C 160 18 [l0, l1] (.int y :: .int x :: st) h = zrun zP sv C 160 19 [l0, l1] (.int (x + y) :: st) h := zx_go rfl rfl
theorem zs_160_19 : zrun zP sv C 160 19 [l0, l1] (.int x :: .ref a :: st) h = zpfd (h.1 a) 7 2 0 (.int x) (fun c => zrun zP sv C 160 22 [l0, l1] st (zup h a c)) := zx_putf (x0 := 0) rfl rfl
theorem zs_160_22 : zrun zP sv C 160 22 [l0, .val (.int x)] st h = zrun zP sv C 160 23 [l0, .val (.int x)] (.int x :: st) h := zx_go rfl rfl
theorem zs_160_23 : zrun zP sv C 160 23 [l0, l1] [.int x] h = zgd (zty 7 (.int x)) (some (.inl (some (.int x)), h)) := zx_rt rfl
theorem zs_161_0 : zrun zP sv C 161 0 [.val (.ref a), l1] st h = zrun zP sv C 161 1 [.val (.ref a), l1] (.ref a :: st) h := zx_go rfl rfl
theorem zs_161_1 : zrun zP sv C 161 1 [l0, l1] (.ref a :: st) h = zfld (h.1 a) 7 0 (fun v => zrun zP sv C 161 4 [l0, l1] (v :: st) h) := zx_getf rfl rfl
theorem zs_161_4 : zrun zP sv C 161 4 [.val (.ref a), l1] st h = zrun zP sv C 161 5 [.val (.ref a), l1] (.ref a :: st) h := zx_go rfl rfl
theorem zs_161_5 : zrun zP sv C 161 5 [l0, l1] (.ref a :: st) h = zfld (h.1 a) 7 2 (fun v => zrun zP sv C 161 8 [l0, l1] (v :: st) h) := zx_getf rfl rfl
theorem zs_161_8 : zrun zP sv C 161 8 [l0, l1] [v1, .ref b] h = zrc (h.1 b) 8 (zbk (C 141 [.ref b, v1] h) (fun v h' => zrun zP sv C 161 11 [l0, l1] (v.toList ++ []) h') (fun E h' => some (.inr E, h'))) := zx_cv (x0 := 8) rfl rfl rfl rfl rfl ⟨Nat.le_of_ble_eq_true rfl, rfl⟩ (fun _ _ => rfl)
theorem zs_161_11 : zrun zP sv C 161 11 [l0, l1] st h = zrun zP sv C 161 13 [l0, l1] (.int (nI 48) :: st) h := zx_go rfl rfl
theorem zs_161_13 : zrun zP sv C 161 13 [l0, l1] (.int y :: .int x :: st) h = zrun zP sv C 161 14 [l0, l1] (.int (x - y) :: st) h := zx_go rfl rfl
theorem zs_161_14 (hs : znw l1 = true) : zrun zP sv C 161 14 [l0, l1] (.int x :: st) h = zrun zP sv C 161 15 [l0, .val (.int x)] st h := zx_st hs rfl rfl rfl rfl rfl rfl
theorem zs_161_15 : zrun zP sv C 161 15 [.val (.ref a), l1] st h = zrun zP sv C 161 16 [.val (.ref a), l1] (.ref a :: st) h := zx_go rfl rfl
theorem zs_161_16 : zrun zP sv C 161 16 [l0, l1] (.ref a :: st) h = zrun zP sv C 161 17 [l0, l1] (.ref a :: .ref a :: st) h := zx_go rfl rfl
theorem zs_161_17 : zrun zP sv C 161 17 [l0, l1] (.ref a :: st) h = zfld (h.1 a) 7 2 (fun v => zrun zP sv C 161 20 [l0, l1] (v :: st) h) := zx_getf rfl rfl
theorem zs_161_20 : zrun zP sv C 161 20 [l0, l1] st h = zrun zP sv C 161 21 [l0, l1] (.int (nI 1) :: st) h := zx_go rfl rfl
theorem zs_161_21 : zrun zP sv C 161 21 [l0, l1] (.int y :: .int x :: st) h = zrun zP sv C 161 22 [l0, l1] (.int (x + y) :: st) h := zx_go rfl rfl
theorem zs_161_22 : zrun zP sv C 161 22 [l0, l1] (.int x :: .ref a :: st) h = zpfd (h.1 a) 7 2 0 (.int x) (fun c => zrun zP sv C 161 25 [l0, l1] st (zup h a c)) := zx_putf (x0 := 0) rfl rfl
theorem zs_161_25 : zrun zP sv C 161 25 [l0, .val (.int x)] st h = zrun zP sv C 161 26 [l0, .val (.int x)] (.int x :: st) h := zx_go rfl rfl
theorem zs_161_26 : zrun zP sv C 161 26 [l0, l1] [.int x] h = some (.inl (some (.int x)), h) := zx_end rfl rfl
theorem zs_162_0 : zrun zP sv C 162 0 [.val (.ref a), l1] st h = zrun zP sv C 162 1 [.val (.ref a), l1] (.ref a :: st) h := zx_go rfl rfl
theorem zs_162_1 : zrun zP sv C 162 1 [l0, l1] (.ref a :: st) h = zfld (h.1 a) 7 0 (fun v => zrun zP sv C 162 4 [l0, l1] (v :: st) h) := zx_getf rfl rfl
theorem zs_162_4 : zrun zP sv C 162 4 [.val (.ref a), l1] st h = zrun zP sv C 162 5 [.val (.ref a), l1] (.ref a :: st) h := zx_go rfl rfl
theorem zs_162_5 : zrun zP sv C 162 5 [l0, l1] (.ref a :: st) h = zfld (h.1 a) 7 2 (fun v => zrun zP sv C 162 8 [l0, l1] (v :: st) h) := zx_getf rfl rfl
theorem zs_162_8 : zrun zP sv C 162 8 [l0, l1] [v1, .ref b] h = zrc (h.1 b) 8 (zbk (C 141 [.ref b, v1] h) (fun v h' => zrun zP sv C 162 11 [l0, l1] (v.toList ++ []) h') (fun E h' => some (.inr E, h'))) := zx_cv (x0 := 8) rfl rfl rfl rfl rfl ⟨Nat.le_of_ble_eq_true rfl, rfl⟩ (fun _ _ => rfl)
theorem zs_162_11 (hs : znw l1 = true) : zrun zP sv C 162 11 [l0, l1] (.int x :: st) h = zrun zP sv C 162 12 [l0, .val (.int x)] st h := zx_st hs rfl rfl rfl rfl rfl rfl
theorem zs_162_12 : zrun zP sv C 162 12 [l0, .val (.int x)] st h = zrun zP sv C 162 13 [l0, .val (.int x)] (.int x :: st) h := zx_go rfl rfl
theorem zs_162_13 : zrun zP sv C 162 13 [l0, l1] st h = zrun zP sv C 162 15 [l0, l1] (.int (nI 48) :: st) h := zx_go rfl rfl
theorem zs_162_15 : zrun zP sv C 162 15 [l0, l1] (.int y :: .int x :: st) h = if x < y then zrun zP sv C 162 28 [l0, l1] st h else zrun zP sv C 162 18 [l0, l1] st h := (zx_ic rfl rfl).trans zc2_if
theorem zs_162_18 : zrun zP sv C 162 18 [l0, .val (.int x)] st h = zrun zP sv C 162 19 [l0, .val (.int x)] (.int x :: st) h := zx_go rfl rfl
theorem zs_162_19 : zrun zP sv C 162 19 [l0, l1] st h = zrun zP sv C 162 21 [l0, l1] (.int (nI 57) :: st) h := zx_go rfl rfl
theorem zs_162_21 : zrun zP sv C 162 21 [l0, l1] (.int y :: .int x :: st) h = if y < x then zrun zP sv C 162 28 [l0, l1] st h else zrun zP sv C 162 24 [l0, l1] st h := (zx_ic rfl rfl).trans zc4_if
theorem zs_162_24 : zrun zP sv C 162 24 [l0, l1] st h = zrun zP sv C 162 25 [l0, l1] (.int (nI 1) :: st) h := zx_go rfl rfl
theorem zs_162_25 : zrun zP sv C 162 25 [l0, l1] st h = zrun zP sv C 162 29 [l0, l1] st h := zx_go rfl rfl
theorem zs_162_28 : zrun zP sv C 162 28 [l0, l1] st h = zrun zP sv C 162 29 [l0, l1] (.int 0 :: st) h := zx_go rfl rfl
theorem zs_162_29 : zrun zP sv C 162 29 [l0, l1] [.int x] h = zgd (zty 5 (.int x)) (some (.inl (some (.int x)), h)) := zx_rt rfl
theorem zs_163_0 : zrun zP sv C 163 0 [.val (.ref a), l1, l2, l3] st h = zrun zP sv C 163 1 [.val (.ref a), l1, l2, l3] (.ref a :: st) h := zx_go rfl rfl
theorem zs_163_1 : zrun zP sv C 163 1 [l0, l1, l2, l3] (.ref a :: st) h = zfld (h.1 a) 7 0 (fun v => zrun zP sv C 163 4 [l0, l1, l2, l3] (v :: st) h) := zx_getf rfl rfl
theorem zs_163_4 : zrun zP sv C 163 4 [.val (.ref a), l1, l2, l3] st h = zrun zP sv C 163 5 [.val (.ref a), l1, l2, l3] (.ref a :: st) h := zx_go rfl rfl
theorem zs_163_5 : zrun zP sv C 163 5 [l0, l1, l2, l3] (.ref a :: st) h = zfld (h.1 a) 7 2 (fun v => zrun zP sv C 163 8 [l0, l1, l2, l3] (v :: st) h) := zx_getf rfl rfl
theorem zs_163_8 : zrun zP sv C 163 8 [l0, l1, l2, l3] [v1, .ref b] h = zrc (h.1 b) 8 (zbk (C 141 [.ref b, v1] h) (fun v h' => zrun zP sv C 163 11 [l0, l1, l2, l3] (v.toList ++ []) h') (fun E h' => some (.inr E, h'))) := zx_cv (x0 := 8) rfl rfl rfl rfl rfl ⟨Nat.le_of_ble_eq_true rfl, rfl⟩ (fun _ _ => rfl)
theorem zs_163_11 (hs : znw l3 = true) : zrun zP sv C 163 11 [l0, l1, l2, l3] (.int x :: st) h = zrun zP sv C 163 12 [l0, l1, l2, .val (.int x)] st h := zx_st hs rfl rfl rfl rfl rfl rfl
theorem zs_163_12 : zrun zP sv C 163 12 [l0, l1, l2, .val (.int x)] st h = zrun zP sv C 163 13 [l0, l1, l2, .val (.int x)] (.int x :: st) h := zx_go rfl rfl
theorem zs_163_13 : zrun zP sv C 163 13 [l0, .val (.int x), l2, l3] st h = zrun zP sv C 163 14 [l0, .val (.int x), l2, l3] (.int x :: st) h := zx_go rfl rfl
theorem zs_163_14 : zrun zP sv C 163 14 [l0, l1, l2, l3] (.int y :: .int x :: st) h = if x = y then zrun zP sv C 163 22 [l0, l1, l2, l3] st h else zrun zP sv C 163 17 [l0, l1, l2, l3] st h := (zx_ic rfl rfl).trans zc0_if
theorem zs_163_17 : zrun zP sv C 163 17 [l0, l1, l2, .val (.int x)] st h = zrun zP sv C 163 18 [l0, l1, l2, .val (.int x)] (.int x :: st) h := zx_go rfl rfl
theorem zs_163_18 : zrun zP sv C 163 18 [l0, l1, .val (.int x), l3] st h = zrun zP sv C 163 19 [l0, l1, .val (.int x), l3] (.int x :: st) h := zx_go rfl rfl
theorem zs_163_19 : zrun zP sv C 163 19 [l0, l1, l2, l3] (.int y :: .int x :: st) h = if x = y then zrun zP sv C 163 22 [l0, l1, l2, l3] st h else zrun zP sv C 163 26 [l0, l1, l2, l3] st h := (zx_ic rfl rfl).trans zc1_if
theorem zs_163_22 : zrun zP sv C 163 22 [l0, l1, l2, l3] st h = zrun zP sv C 163 23 [l0, l1, l2, l3] (.int (nI 1) :: st) h := zx_go rfl rfl
theorem zs_163_23 : zrun zP sv C 163 23 [l0, l1, l2, l3] st h = zrun zP sv C 163 27 [l0, l1, l2, l3] st h := zx_go rfl rfl
theorem zs_163_26 : zrun zP sv C 163 26 [l0, l1, l2, l3] st h = zrun zP sv C 163 27 [l0, l1, l2, l3] (.int 0 :: st) h := zx_go rfl rfl
theorem zs_163_27 : zrun zP sv C 163 27 [l0, l1, l2, l3] [.int x] h = zgd (zty 5 (.int x)) (some (.inl (some (.int x)), h)) := zx_rt rfl
theorem zs_164_0 : zrun zP sv C 164 0 [.val (.ref a), l1] st h = zrun zP sv C 164 1 [.val (.ref a), l1] (.ref a :: st) h := zx_go rfl rfl
theorem zs_164_1 : zrun zP sv C 164 1 [l0, l1] [.ref a] h = zrun zP sv C 164 4 [l0, l1] [] h := zx_go rfl rfl
theorem zs_164_4 : zrun zP sv C 164 4 [.val (.ref a), l1] st h = zrun zP sv C 164 5 [.val (.ref a), l1] (.ref a :: st) h := zx_go rfl rfl
theorem zs_164_5 : zrun zP sv C 164 5 [l0, .val (.int x)] st h = zrun zP sv C 164 6 [l0, .val (.int x)] (.int x :: st) h := zx_go rfl rfl
theorem zs_164_6 : zrun zP sv C 164 6 [l0, l1] (.int x :: st) h = if 0 < x then zrun zP sv C 164 9 [l0, l1] st h else zrun zP sv C 164 13 [l0, l1] st h := (zx_if rfl rfl).trans zc5_if
theorem zs_164_9 : zrun zP sv C 164 9 [l0, .val (.int x)] st h = zrun zP sv C 164 10 [l0, .val (.int x)] (.int x :: st) h := zx_go rfl rfl
theorem zs_164_10 : zrun zP sv C 164 10 [l0, l1] st h = zrun zP sv C 164 14 [l0, l1] st h := zx_go rfl rfl
theorem zs_164_13 : zrun zP sv C 164 13 [l0, l1] st h = zrun zP sv C 164 14 [l0, l1] (.int 0 :: st) h := zx_go rfl rfl
theorem zs_164_14 : zrun zP sv C 164 14 [l0, l1] (.int x :: st) h = znwa x (fun q => zrun zP sv C 164 16 [l0, l1] (.ref h.2.1 :: st) (znew h (20, List.replicate q (.int 0)) q)) := zx_nwa rfl rfl
theorem zs_164_16 : zrun zP sv C 164 16 [l0, l1] (.ref b :: .ref a :: st) h = zpfd (h.1 a) 4 0 4 (.ref b) (fun c => zrun zP sv C 164 19 [l0, l1] st (zup h a c)) := zx_putf (x0 := 4) rfl rfl
theorem zs_164_19 : zrun zP sv C 164 19 [l0, l1] [] h = some (.inl none, h) := zx_end rfl rfl
theorem zs_165_0 : zrun zP sv C 165 0 [l0, .val (.int x)] st h = zrun zP sv C 165 1 [l0, .val (.int x)] (.int x :: st) h := zx_go rfl rfl
theorem zs_165_1 : zrun zP sv C 165 1 [l0, l1] (.int x :: st) h = if x < 0 then zrun zP sv C 165 22 [l0, l1] st h else zrun zP sv C 165 4 [l0, l1] st h := (zx_if rfl rfl).trans zc2_if
theorem zs_165_4 : zrun zP sv C 165 4 [l0, .val (.int x)] st h = zrun zP sv C 165 5 [l0, .val (.int x)] (.int x :: st) h := zx_go rfl rfl
theorem zs_165_5 : zrun zP sv C 165 5 [.val (.ref a), l1] st h = zrun zP sv C 165 6 [.val (.ref a), l1] (.ref a :: st) h := zx_go rfl rfl
theorem zs_165_6 : zrun zP sv C 165 6 [l0, l1] (.ref a :: st) h = zfld (h.1 a) 4 0 (fun v => zrun zP sv C 165 9 [l0, l1] (v :: st) h) := zx_getf rfl rfl
theorem zs_165_9 : zrun zP sv C 165 9 [l0, l1] (.ref a :: st) h = zaln (h.1 a) (fun v => zrun zP sv C 165 10 [l0, l1] (.int v :: st) h) := zx_aln rfl rfl
theorem zs_165_10 : zrun zP sv C 165 10 [l0, l1] (.int y :: .int x :: st) h = if x < y then zrun zP sv C 165 13 [l0, l1] st h else zrun zP sv C 165 22 [l0, l1] st h := (zx_ic rfl rfl).trans zc3_if
theorem zs_165_13 : zrun zP sv C 165 13 [.val (.ref a), l1] st h = zrun zP sv C 165 14 [.val (.ref a), l1] (.ref a :: st) h := zx_go rfl rfl
theorem zs_165_14 : zrun zP sv C 165 14 [l0, l1] (.ref a :: st) h = zfld (h.1 a) 4 0 (fun v => zrun zP sv C 165 17 [l0, l1] (v :: st) h) := zx_getf rfl rfl
theorem zs_165_17 : zrun zP sv C 165 17 [l0, .val (.int x)] st h = zrun zP sv C 165 18 [l0, .val (.int x)] (.int x :: st) h := zx_go rfl rfl
theorem zs_165_18 : zrun zP sv C 165 18 [l0, l1] (.int x :: .ref a :: st) h = zael (h.1 a) 20 x (fun v => zrun zP sv C 165 19 [l0, l1] (v :: st) h) := zx_ald rfl rfl
theorem zs_165_19 : zrun zP sv C 165 19 [l0, l1] st h = zrun zP sv C 165 23 [l0, l1] st h := zx_go rfl rfl
theorem zs_165_22 : zrun zP sv C 165 22 [l0, l1] st h = zrun zP sv C 165 23 [l0, l1] (.int 0 :: st) h := zx_go rfl rfl
theorem zs_165_23 : zrun zP sv C 165 23 [l0, l1] [.int x] h = some (.inl (some (.int x)), h) := zx_end rfl rfl
theorem zs_166_0 : zrun zP sv C 166 0 [l0, .val (.int x), l2] st h = zrun zP sv C 166 1 [l0, .val (.int x), l2] (.int x :: st) h := zx_go rfl rfl
theorem zs_166_1 : zrun zP sv C 166 1 [l0, l1, l2] (.int x :: st) h = if x < 0 then zrun zP sv C 166 20 [l0, l1, l2] st h else zrun zP sv C 166 4 [l0, l1, l2] st h := (zx_if rfl rfl).trans zc2_if
theorem zs_166_4 : zrun zP sv C 166 4 [l0, .val (.int x), l2] st h = zrun zP sv C 166 5 [l0, .val (.int x), l2] (.int x :: st) h := zx_go rfl rfl
theorem zs_166_5 : zrun zP sv C 166 5 [.val (.ref a), l1, l2] st h = zrun zP sv C 166 6 [.val (.ref a), l1, l2] (.ref a :: st) h := zx_go rfl rfl
theorem zs_166_6 : zrun zP sv C 166 6 [l0, l1, l2] (.ref a :: st) h = zfld (h.1 a) 4 0 (fun v => zrun zP sv C 166 9 [l0, l1, l2] (v :: st) h) := zx_getf rfl rfl
theorem zs_166_9 : zrun zP sv C 166 9 [l0, l1, l2] (.ref a :: st) h = zaln (h.1 a) (fun v => zrun zP sv C 166 10 [l0, l1, l2] (.int v :: st) h) := zx_aln rfl rfl
theorem zs_166_10 : zrun zP sv C 166 10 [l0, l1, l2] (.int y :: .int x :: st) h = if x < y then zrun zP sv C 166 13 [l0, l1, l2] st h else zrun zP sv C 166 20 [l0, l1, l2] st h := (zx_ic rfl rfl).trans zc3_if
theorem zs_166_13 : zrun zP sv C 166 13 [.val (.ref a), l1, l2] st h = zrun zP sv C 166 14 [.val (.ref a), l1, l2] (.ref a :: st) h := zx_go rfl rfl
theorem zs_166_14 : zrun zP sv C 166 14 [l0, l1, l2] (.ref a :: st) h = zfld (h.1 a) 4 0 (fun v => zrun zP sv C 166 17 [l0, l1, l2] (v :: st) h) := zx_getf rfl rfl
theorem zs_166_17 : zrun zP sv C 166 17 [l0, .val (.int x), l2] st h = zrun zP sv C 166 18 [l0, .val (.int x), l2] (.int x :: st) h := zx_go rfl rfl
theorem zs_166_18 : zrun zP sv C 166 18 [l0, l1, .val (.int x)] st h = zrun zP sv C 166 19 [l0, l1, .val (.int x)] (.int x :: st) h := zx_go rfl rfl
theorem zs_166_19 : zrun zP sv C 166 19 [l0, l1, l2] (.int y :: .int x :: .ref a :: st) h = zaset (h.1 a) 20 x (.int y) (fun c => zrun zP sv C 166 20 [l0, l1, l2] st (zup h a c)) := zx_ast rfl rfl
theorem zs_166_20 : zrun zP sv C 166 20 [l0, l1, l2] [] h = some (.inl none, h) := zx_end rfl rfl
theorem zs_167_0 : zrun zP sv C 167 0 [l0, l1, l2] st h = zrun zP sv C 167 1 [l0, l1, l2] (.int 0 :: st) h := zx_go rfl rfl
theorem zs_167_1 (hs : znw l2 = true) : zrun zP sv C 167 1 [l0, l1, l2] (.int x :: st) h = zrun zP sv C 167 2 [l0, l1, .val (.int x)] st h := zx_st hs rfl rfl rfl rfl rfl rfl
theorem zs_167_2 : zrun zP sv C 167 2 [l0, l1, .val (.int x)] st h = zrun zP sv C 167 3 [l0, l1, .val (.int x)] (.int x :: st) h := zx_go rfl rfl
theorem zs_167_3 : zrun zP sv C 167 3 [.val (.ref a), l1, l2] st h = zrun zP sv C 167 4 [.val (.ref a), l1, l2] (.ref a :: st) h := zx_go rfl rfl
theorem zs_167_4 : zrun zP sv C 167 4 [l0, l1, l2] (.ref a :: st) h = zfld (h.1 a) 4 0 (fun v => zrun zP sv C 167 7 [l0, l1, l2] (v :: st) h) := zx_getf rfl rfl
theorem zs_167_7 : zrun zP sv C 167 7 [l0, l1, l2] (.ref a :: st) h = zaln (h.1 a) (fun v => zrun zP sv C 167 8 [l0, l1, l2] (.int v :: st) h) := zx_aln rfl rfl
theorem zs_167_8 : zrun zP sv C 167 8 [l0, l1, l2] (.int y :: .int x :: st) h = if x < y then zrun zP sv C 167 11 [l0, l1, l2] st h else zrun zP sv C 167 28 [l0, l1, l2] st h := (zx_ic rfl rfl).trans zc3_if
theorem zs_167_11 : zrun zP sv C 167 11 [.val (.ref a), l1, l2] st h = zrun zP sv C 167 12 [.val (.ref a), l1, l2] (.ref a :: st) h := zx_go rfl rfl
theorem zs_167_12 : zrun zP sv C 167 12 [l0, l1, l2] (.ref a :: st) h = zfld (h.1 a) 4 0 (fun v => zrun zP sv C 167 15 [l0, l1, l2] (v :: st) h) := zx_getf rfl rfl
theorem zs_167_15 : zrun zP sv C 167 15 [l0, l1, .val (.int x)] st h = zrun zP sv C 167 16 [l0, l1, .val (.int x)] (.int x :: st) h := zx_go rfl rfl
theorem zs_167_16 : zrun zP sv C 167 16 [l0, .val (.ref a), l2] st h = zrun zP sv C 167 17 [l0, .val (.ref a), l2] (.ref a :: st) h := zx_go rfl rfl
theorem zs_167_17 : zrun zP sv C 167 17 [l0, l1, .val (.int x)] st h = zrun zP sv C 167 18 [l0, l1, .val (.int x)] (.int x :: st) h := zx_go rfl rfl
theorem zs_167_18 : zrun zP sv C 167 18 [l0, l1, l2] [v1, .ref b, r0, r1] h = zrc (h.1 b) 4 (zbk (C 165 [.ref b, v1] h) (fun v h' => zrun zP sv C 167 21 [l0, l1, l2] (v.toList ++ [r0, r1]) h') (fun E h' => some (.inr E, h'))) := zx_cv (x0 := 4) rfl rfl rfl rfl rfl ⟨Nat.le_of_ble_eq_true rfl, rfl⟩ (fun _ _ => rfl)
theorem zs_167_21 : zrun zP sv C 167 21 [l0, l1, l2] (.int y :: .int x :: .ref a :: st) h = zaset (h.1 a) 20 x (.int y) (fun c => zrun zP sv C 167 22 [l0, l1, l2] st (zup h a c)) := zx_ast rfl rfl
theorem zs_167_22 : zrun zP sv C 167 22 [l0, l1, .val (.int x)] st h = zrun zP sv C 167 25 [l0, l1, .val (.int (x + (nI 1)))] st h := zx_ii rfl rfl rfl rfl rfl
theorem zs_167_25 : zrun zP sv C 167 25 [l0, l1, l2] st h = zrun zP sv C 167 2 [l0, l1, l2] st h := zx_go rfl rfl
theorem zs_167_28 : zrun zP sv C 167 28 [l0, l1, l2] [] h = some (.inl none, h) := zx_end rfl rfl
theorem zs_168_0 : zrun zP sv C 168 0 [.val (.ref a)] st h = zrun zP sv C 168 1 [.val (.ref a)] (.ref a :: st) h := zx_go rfl rfl
theorem zs_168_0n : zrun zP sv C 168 0 [.val .null] st h = zrun zP sv C 168 1 [.val .null] (.null :: st) h := zx_go rfl rfl
theorem zs_168_1 : zrun zP sv C 168 1 [l0] [.ref a] h = zrun zP sv C 168 4 [l0] [] h := zx_go rfl rfl
theorem zs_168_4 : zrun zP sv C 168 4 [.val (.ref a)] st h = zrun zP sv C 168 5 [.val (.ref a)] (.ref a :: st) h := zx_go rfl rfl
theorem zs_168_4n : zrun zP sv C 168 4 [.val .null] st h = zrun zP sv C 168 5 [.val .null] (.null :: st) h := zx_go rfl rfl
theorem zs_168_5 : zrun zP sv C 168 5 [l0] st h = zrun zP sv C 168 7 [l0] (.int (nI 6) :: st) h := zx_go rfl rfl
theorem zs_168_7 : zrun zP sv C 168 7 [l0] (.int x :: st) h = znwa x (fun q => zrun zP sv C 168 10 [l0] (.ref h.2.1 :: st) (znew h (25, List.replicate q (.null)) q)) := zx_nwa rfl rfl
theorem zs_168_10 : zrun zP sv C 168 10 [l0] (.ref b :: .ref a :: st) h = zpfd (h.1 a) 3 0 4 (.ref b) (fun c => zrun zP sv C 168 13 [l0] st (zup h a c)) := zx_putf (x0 := 4) rfl rfl
theorem zs_168_10n : zrun zP sv C 168 10 [l0] (.null :: .ref a :: st) h = zpfd (h.1 a) 3 0 4 (.null) (fun c => zrun zP sv C 168 13 [l0] st (zup h a c)) := zx_putf (x0 := 4) rfl rfl
theorem zs_168_13 : zrun zP sv C 168 13 [.val (.ref a)] st h = zrun zP sv C 168 14 [.val (.ref a)] (.ref a :: st) h := zx_go rfl rfl
theorem zs_168_13n : zrun zP sv C 168 13 [.val .null] st h = zrun zP sv C 168 14 [.val .null] (.null :: st) h := zx_go rfl rfl
theorem zs_168_14 : zrun zP sv C 168 14 [l0] st h = zrun zP sv C 168 15 [l0] (.int 0 :: st) h := zx_go rfl rfl
theorem zs_168_15 : zrun zP sv C 168 15 [l0] (.int x :: .ref a :: st) h = zpfd (h.1 a) 3 1 0 (.int x) (fun c => zrun zP sv C 168 18 [l0] st (zup h a c)) := zx_putf (x0 := 0) rfl rfl
theorem zs_168_18 : zrun zP sv C 168 18 [.val (.ref a)] st h = zrun zP sv C 168 19 [.val (.ref a)] (.ref a :: st) h := zx_go rfl rfl
theorem zs_168_18n : zrun zP sv C 168 18 [.val .null] st h = zrun zP sv C 168 19 [.val .null] (.null :: st) h := zx_go rfl rfl
theorem zs_168_19 : zrun zP sv C 168 19 [l0] st h = zrun zP sv C 168 22 [l0] (.ref h.2.1 :: st) (znew h (4, [.null]) 1) := zx_go rfl rfl
theorem zs_168_22 : zrun zP sv C 168 22 [l0] (.ref a :: st) h = zrun zP sv C 168 23 [l0] (.ref a :: .ref a :: st) h := zx_go rfl rfl
theorem zs_168_23 : zrun zP sv C 168 23 [l0] st h = zrun zP sv C 168 25 [l0] (.int (nI 6) :: st) h := zx_go rfl rfl
theorem zs_168_25 : zrun zP sv C 168 25 [l0] [v1, .ref b, r0, r1] h = zrc (h.1 b) 4 (zbk (C 164 [.ref b, v1] h) (fun v h' => zrun zP sv C 168 28 [l0] (v.toList ++ [r0, r1]) h') (fun E h' => some (.inr E, h'))) := zx_cv (x0 := 4) rfl rfl rfl rfl rfl ⟨Nat.le_of_ble_eq_true rfl, rfl⟩ (fun _ _ => rfl)
theorem zs_168_28 : zrun zP sv C 168 28 [l0] (.ref b :: .ref a :: st) h = zpfd (h.1 a) 3 2 4 (.ref b) (fun c => zrun zP sv C 168 31 [l0] st (zup h a c)) := zx_putf (x0 := 4) rfl rfl
theorem zs_168_28n : zrun zP sv C 168 28 [l0] (.null :: .ref a :: st) h = zpfd (h.1 a) 3 2 4 (.null) (fun c => zrun zP sv C 168 31 [l0] st (zup h a c)) := zx_putf (x0 := 4) rfl rfl
theorem zs_168_31 : zrun zP sv C 168 31 [.val (.ref a)] st h = zrun zP sv C 168 32 [.val (.ref a)] (.ref a :: st) h := zx_go rfl rfl
theorem zs_168_31n : zrun zP sv C 168 31 [.val .null] st h = zrun zP sv C 168 32 [.val .null] (.null :: st) h := zx_go rfl rfl
theorem zs_168_32 : zrun zP sv C 168 32 [l0] st h = zrun zP sv C 168 33 [l0] (.int (nI 2) :: st) h := zx_go rfl rfl
theorem zs_168_33 : zrun zP sv C 168 33 [l0] (.int x :: .ref a :: st) h = zpfd (h.1 a) 3 3 0 (.int x) (fun c => zrun zP sv C 168 36 [l0] st (zup h a c)) := zx_putf (x0 := 0) rfl rfl
theorem zs_168_36 : zrun zP sv C 168 36 [.val (.ref a)] st h = zrun zP sv C 168 37 [.val (.ref a)] (.ref a :: st) h := zx_go rfl rfl
theorem zs_168_36n : zrun zP sv C 168 36 [.val .null] st h = zrun zP sv C 168 37 [.val .null] (.null :: st) h := zx_go rfl rfl
theorem zs_168_37 : zrun zP sv C 168 37 [l0] st h = zrun zP sv C 168 38 [l0] (.int 0 :: st) h := zx_go rfl rfl
theorem zs_168_38 : zrun zP sv C 168 38 [l0] (.int x :: .ref a :: st) h = zpfd (h.1 a) 3 4 0 (.int x) (fun c => zrun zP sv C 168 41 [l0] st (zup h a c)) := zx_putf (x0 := 0) rfl rfl
theorem zs_168_41 : zrun zP sv C 168 41 [l0] [] h = some (.inl none, h) := zx_end rfl rfl
theorem zs_169_0 : zrun zP sv C 169 0 [.val (.ref a)] st h = zrun zP sv C 169 1 [.val (.ref a)] (.ref a :: st) h := zx_go rfl rfl
theorem zs_169_0n : zrun zP sv C 169 0 [.val .null] st h = zrun zP sv C 169 1 [.val .null] (.null :: st) h := zx_go rfl rfl
theorem zs_169_1 : zrun zP sv C 169 1 [l0] (.ref a :: st) h = zfld (h.1 a) 3 1 (fun v => zrun zP sv C 169 4 [l0] (v :: st) h) := zx_getf rfl rfl
theorem zs_169_4 : zrun zP sv C 169 4 [l0] [.int x] h = some (.inl (some (.int x)), h) := zx_end rfl rfl
theorem zs_170_0 : zrun zP sv C 170 0 [.val (.ref a)] st h = zrun zP sv C 170 1 [.val (.ref a)] (.ref a :: st) h := zx_go rfl rfl
theorem zs_170_0n : zrun zP sv C 170 0 [.val .null] st h = zrun zP sv C 170 1 [.val .null] (.null :: st) h := zx_go rfl rfl
theorem zs_170_1 : zrun zP sv C 170 1 [l0] (.ref a :: st) h = zfld (h.1 a) 3 2 (fun v => zrun zP sv C 170 4 [l0] (v :: st) h) := zx_getf rfl rfl
theorem zs_170_4 : zrun zP sv C 170 4 [l0] [.ref a] h = some (.inl (some (.ref a)), h) := zx_end rfl rfl
theorem zs_170_4n : zrun zP sv C 170 4 [l0] [.null] h = some (.inl (some (.null)), h) := zx_end rfl rfl
theorem zs_171_0 : zrun zP sv C 171 0 [.val (.ref a)] st h = zrun zP sv C 171 1 [.val (.ref a)] (.ref a :: st) h := zx_go rfl rfl
theorem zs_171_0n : zrun zP sv C 171 0 [.val .null] st h = zrun zP sv C 171 1 [.val .null] (.null :: st) h := zx_go rfl rfl
theorem zs_171_1 : zrun zP sv C 171 1 [l0] (.ref a :: st) h = zfld (h.1 a) 3 3 (fun v => zrun zP sv C 171 4 [l0] (v :: st) h) := zx_getf rfl rfl
theorem zs_171_4 : zrun zP sv C 171 4 [l0] [.int x] h = some (.inl (some (.int x)), h) := zx_end rfl rfl
theorem zs_172_0 : zrun zP sv C 172 0 [.val (.ref a)] st h = zrun zP sv C 172 1 [.val (.ref a)] (.ref a :: st) h := zx_go rfl rfl
theorem zs_172_0n : zrun zP sv C 172 0 [.val .null] st h = zrun zP sv C 172 1 [.val .null] (.null :: st) h := zx_go rfl rfl
theorem zs_172_1 : zrun zP sv C 172 1 [l0] (.ref a :: st) h = zfld (h.1 a) 3 4 (fun v => zrun zP sv C 172 4 [l0] (v :: st) h) := zx_getf rfl rfl
theorem zs_172_4 : zrun zP sv C 172 4 [l0] [.int x] h = some (.inl (some (.int x)), h) := zx_end rfl rfl
theorem zs_173_0 : zrun zP sv C 173 0 [l0, .val (.int x)] st h = zrun zP sv C 173 1 [l0, .val (.int x)] (.int x :: st) h := zx_go rfl rfl
theorem zs_173_1 : zrun zP sv C 173 1 [l0, l1] (.int x :: st) h = if x < 0 then zrun zP sv C 173 30 [l0, l1] st h else zrun zP sv C 173 4 [l0, l1] st h := (zx_if rfl rfl).trans zc2_if
theorem zs_173_4 : zrun zP sv C 173 4 [l0, .val (.int x)] st h = zrun zP sv C 173 5 [l0, .val (.int x)] (.int x :: st) h := zx_go rfl rfl
theorem zs_173_5 : zrun zP sv C 173 5 [.val (.ref a), l1] st h = zrun zP sv C 173 6 [.val (.ref a), l1] (.ref a :: st) h := zx_go rfl rfl
theorem zs_173_5n : zrun zP sv C 173 5 [.val .null, l1] st h = zrun zP sv C 173 6 [.val .null, l1] (.null :: st) h := zx_go rfl rfl
theorem zs_173_6 : zrun zP sv C 173 6 [l0, l1] (.ref a :: st) h = zfld (h.1 a) 3 1 (fun v => zrun zP sv C 173 9 [l0, l1] (v :: st) h) := zx_getf rfl rfl
theorem zs_173_9 : zrun zP sv C 173 9 [l0, l1] (.int y :: .int x :: st) h = if x < y then zrun zP sv C 173 12 [l0, l1] st h else zrun zP sv C 173 30 [l0, l1] st h := (zx_ic rfl rfl).trans zc3_if
theorem zs_173_12 : zrun zP sv C 173 12 [l0, .val (.int x)] st h = zrun zP sv C 173 13 [l0, .val (.int x)] (.int x :: st) h := zx_go rfl rfl
theorem zs_173_13 : zrun zP sv C 173 13 [.val (.ref a), l1] st h = zrun zP sv C 173 14 [.val (.ref a), l1] (.ref a :: st) h := zx_go rfl rfl
theorem zs_173_13n : zrun zP sv C 173 13 [.val .null, l1] st h = zrun zP sv C 173 14 [.val .null, l1] (.null :: st) h := zx_go rfl rfl
theorem zs_173_14 : zrun zP sv C 173 14 [l0, l1] (.ref a :: st) h = zfld (h.1 a) 3 0 (fun v => zrun zP sv C 173 17 [l0, l1] (v :: st) h) := zx_getf rfl rfl
theorem zs_173_17 : zrun zP sv C 173 17 [l0, l1] (.ref a :: st) h = zaln (h.1 a) (fun v => zrun zP sv C 173 18 [l0, l1] (.int v :: st) h) := zx_aln rfl rfl
theorem zs_173_18 : zrun zP sv C 173 18 [l0, l1] (.int y :: .int x :: st) h = if x < y then zrun zP sv C 173 21 [l0, l1] st h else zrun zP sv C 173 30 [l0, l1] st h := (zx_ic rfl rfl).trans zc3_if
theorem zs_173_21 : zrun zP sv C 173 21 [.val (.ref a), l1] st h = zrun zP sv C 173 22 [.val (.ref a), l1] (.ref a :: st) h := zx_go rfl rfl
theorem zs_173_21n : zrun zP sv C 173 21 [.val .null, l1] st h = zrun zP sv C 173 22 [.val .null, l1] (.null :: st) h := zx_go rfl rfl
theorem zs_173_22 : zrun zP sv C 173 22 [l0, l1] (.ref a :: st) h = zfld (h.1 a) 3 0 (fun v => zrun zP sv C 173 25 [l0, l1] (v :: st) h) := zx_getf rfl rfl
theorem zs_173_25 : zrun zP sv C 173 25 [l0, .val (.int x)] st h = zrun zP sv C 173 26 [l0, .val (.int x)] (.int x :: st) h := zx_go rfl rfl
theorem zs_173_26 : zrun zP sv C 173 26 [l0, l1] (.int x :: .ref a :: st) h = zael (h.1 a) 25 x (fun v => zrun zP sv C 173 27 [l0, l1] (v :: st) h) := zx_ald rfl rfl
theorem zs_173_27 : zrun zP sv C 173 27 [l0, l1] st h = zrun zP sv C 173 31 [l0, l1] st h := zx_go rfl rfl
theorem zs_173_30 : zrun zP sv C 173 30 [l0, l1] st h = zrun zP sv C 173 31 [l0, l1] (.null :: st) h := zx_go rfl rfl
theorem zs_173_31 : zrun zP sv C 173 31 [l0, l1] [.ref a] h = some (.inl (some (.ref a)), h) := zx_end rfl rfl
theorem zs_173_31n : zrun zP sv C 173 31 [l0, l1] [.null] h = some (.inl (some (.null)), h) := zx_end rfl rfl
theorem zs_174_0 : zrun zP sv C 174 0 [.val (.ref a), l1] st h = zrun zP sv C 174 1 [.val (.ref a), l1] (.ref a :: st) h := zx_go rfl rfl
theorem zs_174_0n : zrun zP sv C 174 0 [.val .null, l1] st h = zrun zP sv C 174 1 [.val .null, l1] (.null :: st) h := zx_go rfl rfl
theorem zs_174_1 : zrun zP sv C 174 1 [l0, l1] (.ref a :: st) h = zrun zP sv C 174 2 [l0, l1] (.ref a :: .ref a :: st) h := zx_go rfl rfl
theorem zs_174_2 : zrun zP sv C 174 2 [l0, l1] (.ref a :: st) h = zfld (h.1 a) 3 1 (fun v => zrun zP sv C 174 5 [l0, l1] (v :: st) h) := zx_getf rfl rfl
theorem zs_174_5 : zrun zP sv C 174 5 [l0, l1] st h = zrun zP sv C 174 6 [l0, l1] (.int (nI 1) :: st) h := zx_go rfl rfl
theorem zs_174_6 : zrun zP sv C 174 6 [l0, l1] (.int y :: .int x :: st) h = zrun zP sv C 174 7 [l0, l1] (.int (x + y) :: st) h := zx_go rfl rfl
theorem zs_174_7 : zrun zP sv C 174 7 [l0, l1] (.int x :: .ref a :: st) h = zpfd (h.1 a) 3 1 0 (.int x) (fun c => zrun zP sv C 174 10 [l0, l1] st (zup h a c)) := zx_putf (x0 := 0) rfl rfl
theorem zs_174_10 : zrun zP sv C 174 10 [.val (.ref a), l1] st h = zrun zP sv C 174 11 [.val (.ref a), l1] (.ref a :: st) h := zx_go rfl rfl
theorem zs_174_10n : zrun zP sv C 174 10 [.val .null, l1] st h = zrun zP sv C 174 11 [.val .null, l1] (.null :: st) h := zx_go rfl rfl
theorem zs_174_11 : zrun zP sv C 174 11 [.val (.ref a), l1] st h = zrun zP sv C 174 12 [.val (.ref a), l1] (.ref a :: st) h := zx_go rfl rfl
theorem zs_174_11n : zrun zP sv C 174 11 [.val .null, l1] st h = zrun zP sv C 174 12 [.val .null, l1] (.null :: st) h := zx_go rfl rfl
theorem zs_174_12 : zrun zP sv C 174 12 [l0, l1] (.ref a :: st) h = zfld (h.1 a) 3 1 (fun v => zrun zP sv C 174 15 [l0, l1] (v :: st) h) := zx_getf rfl rfl
theorem zs_174_15 : zrun zP sv C 174 15 [l0, l1] st h = zrun zP sv C 174 16 [l0, l1] (.int (nI 1) :: st) h := zx_go rfl rfl
theorem zs_174_16 : zrun zP sv C 174 16 [l0, l1] (.int y :: .int x :: st) h = zrun zP sv C 174 17 [l0, l1] (.int (x - y) :: st) h := zx_go rfl rfl
theorem zs_174_17 : zrun zP sv C 174 17 [l0, .val (.ref a)] st h = zrun zP sv C 174 18 [l0, .val (.ref a)] (.ref a :: st) h := zx_go rfl rfl
theorem zs_174_17n : zrun zP sv C 174 17 [l0, .val .null] st h = zrun zP sv C 174 18 [l0, .val .null] (.null :: st) h := zx_go rfl rfl
theorem zs_174_18 : zrun zP sv C 174 18 [l0, l1] [v2, v1, .ref b] h = zrc (h.1 b) 3 (zbk (C 175 [.ref b, v1, v2] h) (fun v h' => zrun zP sv C 174 21 [l0, l1] (v.toList ++ []) h') (fun E h' => some (.inr E, h'))) := zx_cv (x0 := 3) rfl rfl rfl rfl rfl ⟨Nat.le_of_ble_eq_true rfl, rfl⟩ (fun _ _ => rfl)
theorem zs_174_21 : zrun zP sv C 174 21 [.val (.ref a), l1] st h = zrun zP sv C 174 22 [.val (.ref a), l1] (.ref a :: st) h := zx_go rfl rfl
theorem zs_174_21n : zrun zP sv C 174 21 [.val .null, l1] st h = zrun zP sv C 174 22 [.val .null, l1] (.null :: st) h := zx_go rfl rfl
theorem zs_174_22 : zrun zP sv C 174 22 [l0, l1] (.ref a :: st) h = zfld (h.1 a) 3 1 (fun v => zrun zP sv C 174 25 [l0, l1] (v :: st) h) := zx_getf rfl rfl
theorem zs_174_25 : zrun zP sv C 174 25 [l0, l1] st h = zrun zP sv C 174 26 [l0, l1] (.int (nI 1) :: st) h := zx_go rfl rfl
theorem zs_174_26 : zrun zP sv C 174 26 [l0, l1] (.int y :: .int x :: st) h = zrun zP sv C 174 27 [l0, l1] (.int (x - y) :: st) h := zx_go rfl rfl
theorem zs_174_27 : zrun zP sv C 174 27 [l0, l1] [.int x] h = some (.inl (some (.int x)), h) := zx_end rfl rfl
theorem zs_175_0 : zrun zP sv C 175 0 [l0, .val (.int x), l2] st h = zrun zP sv C 175 1 [l0, .val (.int x), l2] (.int x :: st) h := zx_go rfl rfl
theorem zs_175_1 : zrun zP sv C 175 1 [l0, l1, l2] (.int x :: st) h = if x < 0 then zrun zP sv C 175 20 [l0, l1, l2] st h else zrun zP sv C 175 4 [l0, l1, l2] st h := (zx_if rfl rfl).trans zc2_if
theorem zs_175_4 : zrun zP sv C 175 4 [l0, .val (.int x), l2] st h = zrun zP sv C 175 5 [l0, .val (.int x), l2] (.int x :: st) h := zx_go rfl rfl
theorem zs_175_5 : zrun zP sv C 175 5 [.val (.ref a), l1, l2] st h = zrun zP sv C 175 6 [.val (.ref a), l1, l2] (.ref a :: st) h := zx_go rfl rfl
theorem zs_175_5n : zrun zP sv C 175 5 [.val .null, l1, l2] st h = zrun zP sv C 175 6 [.val .null, l1, l2] (.null :: st) h := zx_go rfl rfl
theorem zs_175_6 : zrun zP sv C 175 6 [l0, l1, l2] (.ref a :: st) h = zfld (h.1 a) 3 0 (fun v => zrun zP sv C 175 9 [l0, l1, l2] (v :: st) h) := zx_getf rfl rfl
theorem zs_175_9 : zrun zP sv C 175 9 [l0, l1, l2] (.ref a :: st) h = zaln (h.1 a) (fun v => zrun zP sv C 175 10 [l0, l1, l2] (.int v :: st) h) := zx_aln rfl rfl
theorem zs_175_10 : zrun zP sv C 175 10 [l0, l1, l2] (.int y :: .int x :: st) h = if x < y then zrun zP sv C 175 13 [l0, l1, l2] st h else zrun zP sv C 175 20 [l0, l1, l2] st h := (zx_ic rfl rfl).trans zc3_if
theorem zs_175_13 : zrun zP sv C 175 13 [.val (.ref a), l1, l2] st h = zrun zP sv C 175 14 [.val (.ref a), l1, l2] (.ref a :: st) h := zx_go rfl rfl
theorem zs_175_13n : zrun zP sv C 175 13 [.val .null, l1, l2] st h = zrun zP sv C 175 14 [.val .null, l1, l2] (.null :: st) h := zx_go rfl rfl
theorem zs_175_14 : zrun zP sv C 175 14 [l0, l1, l2] (.ref a :: st) h = zfld (h.1 a) 3 0 (fun v => zrun zP sv C 175 17 [l0, l1, l2] (v :: st) h) := zx_getf rfl rfl
theorem zs_175_17 : zrun zP sv C 175 17 [l0, .val (.int x), l2] st h = zrun zP sv C 175 18 [l0, .val (.int x), l2] (.int x :: st) h := zx_go rfl rfl
theorem zs_175_18 : zrun zP sv C 175 18 [l0, l1, .val (.ref a)] st h = zrun zP sv C 175 19 [l0, l1, .val (.ref a)] (.ref a :: st) h := zx_go rfl rfl
theorem zs_175_18n : zrun zP sv C 175 18 [l0, l1, .val .null] st h = zrun zP sv C 175 19 [l0, l1, .val .null] (.null :: st) h := zx_go rfl rfl
theorem zs_175_19 : zrun zP sv C 175 19 [l0, l1, l2] (.ref b :: .int x :: .ref a :: st) h = zasr (h.1 a) (h.1 b) 25 6 x b (fun c => zrun zP sv C 175 20 [l0, l1, l2] st (zup h a c)) := zx_asr rfl rfl
theorem zs_175_19n : zrun zP sv C 175 19 [l0, l1, l2] (.null :: .int x :: .ref a :: st) h = zasn (h.1 a) 25 x (fun c => zrun zP sv C 175 20 [l0, l1, l2] st (zup h a c)) := zx_asn rfl rfl
theorem zs_175_20 : zrun zP sv C 175 20 [l0, l1, l2] [] h = some (.inl none, h) := zx_end rfl rfl
theorem zs_176_0 : zrun zP sv C 176 0 [l0, .val (.int x), l2] st h = zrun zP sv C 176 1 [l0, .val (.int x), l2] (.int x :: st) h := zx_go rfl rfl
theorem zs_176_1 (hs : znw l2 = true) : zrun zP sv C 176 1 [l0, l1, l2] (.int x :: st) h = zrun zP sv C 176 2 [l0, l1, .val (.int x)] st h := zx_st hs rfl rfl rfl rfl rfl rfl
theorem zs_176_2 : zrun zP sv C 176 2 [l0, l1, .val (.int x)] st h = zrun zP sv C 176 3 [l0, l1, .val (.int x)] (.int x :: st) h := zx_go rfl rfl
theorem zs_176_3 : zrun zP sv C 176 3 [.val (.ref a), l1, l2] st h = zrun zP sv C 176 4 [.val (.ref a), l1, l2] (.ref a :: st) h := zx_go rfl rfl
theorem zs_176_3n : zrun zP sv C 176 3 [.val .null, l1, l2] st h = zrun zP sv C 176 4 [.val .null, l1, l2] (.null :: st) h := zx_go rfl rfl
theorem zs_176_4 : zrun zP sv C 176 4 [l0, l1, l2] (.ref a :: st) h = zfld (h.1 a) 3 1 (fun v => zrun zP sv C 176 7 [l0, l1, l2] (v :: st) h) := zx_getf rfl rfl
theorem zs_176_7 : zrun zP sv C 176 7 [l0, l1, l2] (.int y :: .int x :: st) h = if x < y then zrun zP sv C 176 10 [l0, l1, l2] st h else zrun zP sv C 176 28 [l0, l1, l2] st h := (zx_ic rfl rfl).trans zc3_if
theorem zs_176_10 : zrun zP sv C 176 10 [.val (.ref a), l1, l2] st h = zrun zP sv C 176 11 [.val (.ref a), l1, l2] (.ref a :: st) h := zx_go rfl rfl
theorem zs_176_10n : zrun zP sv C 176 10 [.val .null, l1, l2] st h = zrun zP sv C 176 11 [.val .null, l1, l2] (.null :: st) h := zx_go rfl rfl
theorem zs_176_11 : zrun zP sv C 176 11 [l0, l1, .val (.int x)] st h = zrun zP sv C 176 12 [l0, l1, .val (.int x)] (.int x :: st) h := zx_go rfl rfl
theorem zs_176_12 : zrun zP sv C 176 12 [.val (.ref a), l1, l2] st h = zrun zP sv C 176 13 [.val (.ref a), l1, l2] (.ref a :: st) h := zx_go rfl rfl
theorem zs_176_12n : zrun zP sv C 176 12 [.val .null, l1, l2] st h = zrun zP sv C 176 13 [.val .null, l1, l2] (.null :: st) h := zx_go rfl rfl
theorem zs_176_13 : zrun zP sv C 176 13 [l0, l1, .val (.int x)] st h = zrun zP sv C 176 14 [l0, l1, .val (.int x)] (.int x :: st) h := zx_go rfl rfl
theorem zs_176_14 : zrun zP sv C 176 14 [l0, l1, l2] st h = zrun zP sv C 176 15 [l0, l1, l2] (.int (nI 1) :: st) h := zx_go rfl rfl
theorem zs_176_15 : zrun zP sv C 176 15 [l0, l1, l2] (.int y :: .int x :: st) h = zrun zP sv C 176 16 [l0, l1, l2] (.int (x + y) :: st) h := zx_go rfl rfl
theorem zs_176_16 : zrun zP sv C 176 16 [l0, l1, l2] [v1, .ref b, r0, r1] h = zrc (h.1 b) 3 (zbk (C 173 [.ref b, v1] h) (fun v h' => zrun zP sv C 176 19 [l0, l1, l2] (v.toList ++ [r0, r1]) h') (fun E h' => some (.inr E, h'))) := zx_cv (x0 := 3) rfl rfl rfl rfl rfl ⟨Nat.le_of_ble_eq_true rfl, rfl⟩ (fun _ _ => rfl)
theorem zs_176_19 : zrun zP sv C 176 19 [l0, l1, l2] [v2, v1, .ref b] h = zrc (h.1 b) 3 (zbk (C 175 [.ref b, v1, v2] h) (fun v h' => zrun zP sv C 176 22 [l0, l1, l2] (v.toList ++ []) h') (fun E h' => some (.inr E, h'))) := zx_cv (x0 := 3) rfl rfl rfl rfl rfl ⟨Nat.le_of_ble_eq_true rfl, rfl⟩ (fun _ _ => rfl)
theorem zs_176_22 : zrun zP sv C 176 22 [l0, l1, .val (.int x)] st h = zrun zP sv C 176 25 [l0, l1, .val (.int (x + (nI 1)))] st h := zx_ii rfl rfl rfl rfl rfl
theorem zs_176_25 : zrun zP sv C 176 25 [l0, l1, l2] st h = zrun zP sv C 176 2 [l0, l1, l2] st h := zx_go rfl rfl
theorem zs_176_28 : zrun zP sv C 176 28 [.val (.ref a), l1, l2] st h = zrun zP sv C 176 29 [.val (.ref a), l1, l2] (.ref a :: st) h := zx_go rfl rfl
theorem zs_176_28n : zrun zP sv C 176 28 [.val .null, l1, l2] st h = zrun zP sv C 176 29 [.val .null, l1, l2] (.null :: st) h := zx_go rfl rfl
theorem zs_176_29 : zrun zP sv C 176 29 [l0, l1, l2] (.ref a :: st) h = zrun zP sv C 176 30 [l0, l1, l2] (.ref a :: .ref a :: st) h := zx_go rfl rfl
theorem zs_176_30 : zrun zP sv C 176 30 [l0, l1, l2] (.ref a :: st) h = zfld (h.1 a) 3 1 (fun v => zrun zP sv C 176 33 [l0, l1, l2] (v :: st) h) := zx_getf rfl rfl
theorem zs_176_33 : zrun zP sv C 176 33 [l0, l1, l2] st h = zrun zP sv C 176 34 [l0, l1, l2] (.int (nI 1) :: st) h := zx_go rfl rfl
theorem zs_176_34 : zrun zP sv C 176 34 [l0, l1, l2] (.int y :: .int x :: st) h = zrun zP sv C 176 35 [l0, l1, l2] (.int (x - y) :: st) h := zx_go rfl rfl
theorem zs_176_35 : zrun zP sv C 176 35 [l0, l1, l2] (.int x :: .ref a :: st) h = zpfd (h.1 a) 3 1 0 (.int x) (fun c => zrun zP sv C 176 38 [l0, l1, l2] st (zup h a c)) := zx_putf (x0 := 0) rfl rfl
theorem zs_176_38 : zrun zP sv C 176 38 [l0, l1, l2] [] h = some (.inl none, h) := zx_end rfl rfl
theorem zs_177_0 : zrun zP sv C 177 0 [.val (.ref a), l1] st h = zrun zP sv C 177 1 [.val (.ref a), l1] (.ref a :: st) h := zx_go rfl rfl
theorem zs_177_0n : zrun zP sv C 177 0 [.val .null, l1] st h = zrun zP sv C 177 1 [.val .null, l1] (.null :: st) h := zx_go rfl rfl
theorem zs_177_1 : zrun zP sv C 177 1 [l0, l1] (.ref a :: st) h = zrun zP sv C 177 2 [l0, l1] (.ref a :: .ref a :: st) h := zx_go rfl rfl
theorem zs_177_2 : zrun zP sv C 177 2 [l0, l1] (.ref a :: st) h = zfld (h.1 a) 3 4 (fun v => zrun zP sv C 177 5 [l0, l1] (v :: st) h) := zx_getf rfl rfl
theorem zs_177_5 : zrun zP sv C 177 5 [l0, .val (.int x)] st h = zrun zP sv C 177 6 [l0, .val (.int x)] (.int x :: st) h := zx_go rfl rfl
theorem zs_177_6 : zrun zP sv C 177 6 [l0, l1] (.int y :: .int x :: st) h = zrun zP sv C 177 7 [l0, l1] (.int (x + y) :: st) h := zx_go rfl rfl
theorem zs_177_7 : zrun zP sv C 177 7 [l0, l1] (.int x :: .ref a :: st) h = zpfd (h.1 a) 3 4 0 (.int x) (fun c => zrun zP sv C 177 10 [l0, l1] st (zup h a c)) := zx_putf (x0 := 0) rfl rfl
theorem zs_177_10 : zrun zP sv C 177 10 [l0, l1] [] h = some (.inl none, h) := zx_end rfl rfl
theorem zs_178_0 : zrun zP sv C 178 0 [.val (.ref a), l1, l2, l3] st h = zrun zP sv C 178 1 [.val (.ref a), l1, l2, l3] (.ref a :: st) h := zx_go rfl rfl
theorem zs_178_0n : zrun zP sv C 178 0 [.val .null, l1, l2, l3] st h = zrun zP sv C 178 1 [.val .null, l1, l2, l3] (.null :: st) h := zx_go rfl rfl
theorem zs_178_1 : zrun zP sv C 178 1 [l0, l1, l2, l3] (.ref a :: st) h = zfld (h.1 a) 3 2 (fun v => zrun zP sv C 178 4 [l0, l1, l2, l3] (v :: st) h) := zx_getf rfl rfl
theorem zs_178_4 : zrun zP sv C 178 4 [l0, .val (.int x), l2, l3] st h = zrun zP sv C 178 5 [l0, .val (.int x), l2, l3] (.int x :: st) h := zx_go rfl rfl
theorem zs_178_5 : zrun zP sv C 178 5 [l0, l1, l2, l3] st h = zrun zP sv C 178 7 [l0, l1, l2, l3] (.int (nI 97) :: st) h := zx_go rfl rfl
theorem zs_178_7 : zrun zP sv C 178 7 [l0, l1, l2, l3] (.int y :: .int x :: st) h = zrun zP sv C 178 8 [l0, l1, l2, l3] (.int (x - y) :: st) h := zx_go rfl rfl
theorem zs_178_8 : zrun zP sv C 178 8 [l0, l1, l2, l3] [v1, .ref b] h = zrc (h.1 b) 4 (zbk (C 165 [.ref b, v1] h) (fun v h' => zrun zP sv C 178 11 [l0, l1, l2, l3] (v.toList ++ []) h') (fun E h' => some (.inr E, h'))) := zx_cv (x0 := 4) rfl rfl rfl rfl rfl ⟨Nat.le_of_ble_eq_true rfl, rfl⟩ (fun _ _ => rfl)
theorem zs_178_11 (hs : znw l3 = true) : zrun zP sv C 178 11 [l0, l1, l2, l3] (.int x :: st) h = zrun zP sv C 178 12 [l0, l1, l2, .val (.int x)] st h := zx_st hs rfl rfl rfl rfl rfl rfl
theorem zs_178_12 : zrun zP sv C 178 12 [.val (.ref a), l1, l2, l3] st h = zrun zP sv C 178 13 [.val (.ref a), l1, l2, l3] (.ref a :: st) h := zx_go rfl rfl
theorem zs_178_12n : zrun zP sv C 178 12 [.val .null, l1, l2, l3] st h = zrun zP sv C 178 13 [.val .null, l1, l2, l3] (.null :: st) h := zx_go rfl rfl
theorem zs_178_13 : zrun zP sv C 178 13 [l0, l1, l2, l3] (.ref a :: st) h = zfld (h.1 a) 3 2 (fun v => zrun zP sv C 178 16 [l0, l1, l2, l3] (v :: st) h) := zx_getf rfl rfl
theorem zs_178_16 : zrun zP sv C 178 16 [l0, .val (.int x), l2, l3] st h = zrun zP sv C 178 17 [l0, .val (.int x), l2, l3] (.int x :: st) h := zx_go rfl rfl
theorem zs_178_17 : zrun zP sv C 178 17 [l0, l1, l2, l3] st h = zrun zP sv C 178 19 [l0, l1, l2, l3] (.int (nI 97) :: st) h := zx_go rfl rfl
theorem zs_178_19 : zrun zP sv C 178 19 [l0, l1, l2, l3] (.int y :: .int x :: st) h = zrun zP sv C 178 20 [l0, l1, l2, l3] (.int (x - y) :: st) h := zx_go rfl rfl
theorem zs_178_20 : zrun zP sv C 178 20 [l0, l1, .val (.int x), l3] st h = zrun zP sv C 178 21 [l0, l1, .val (.int x), l3] (.int x :: st) h := zx_go rfl rfl
theorem zs_178_21 : zrun zP sv C 178 21 [l0, l1, l2, l3] [v2, v1, .ref b] h = zrc (h.1 b) 4 (zbk (C 166 [.ref b, v1, v2] h) (fun v h' => zrun zP sv C 178 24 [l0, l1, l2, l3] (v.toList ++ []) h') (fun E h' => some (.inr E, h'))) := zx_cv (x0 := 4) rfl rfl rfl rfl rfl ⟨Nat.le_of_ble_eq_true rfl, rfl⟩ (fun _ _ => rfl)
theorem zs_178_24 : zrun zP sv C 178 24 [l0, l1, l2, .val (.int x)] st h = zrun zP sv C 178 25 [l0, l1, l2, .val (.int x)] (.int x :: st) h := zx_go rfl rfl
theorem zs_178_25 : zrun zP sv C 178 25 [l0, l1, l2, l3] [.int x] h = some (.inl (some (.int x)), h) := zx_end rfl rfl
theorem zs_179_0 : zrun zP sv C 179 0 [.val (.ref a), l1, l2] st h = zrun zP sv C 179 1 [.val (.ref a), l1, l2] (.ref a :: st) h := zx_go rfl rfl
theorem zs_179_0n : zrun zP sv C 179 0 [.val .null, l1, l2] st h = zrun zP sv C 179 1 [.val .null, l1, l2] (.null :: st) h := zx_go rfl rfl
theorem zs_179_1 : zrun zP sv C 179 1 [l0, l1, l2] (.ref a :: st) h = zfld (h.1 a) 3 3 (fun v => zrun zP sv C 179 4 [l0, l1, l2] (v :: st) h) := zx_getf rfl rfl
theorem zs_179_4 (hs : znw l2 = true) : zrun zP sv C 179 4 [l0, l1, l2] (.int x :: st) h = zrun zP sv C 179 5 [l0, l1, .val (.int x)] st h := zx_st hs rfl rfl rfl rfl rfl rfl
theorem zs_179_5 : zrun zP sv C 179 5 [.val (.ref a), l1, l2] st h = zrun zP sv C 179 6 [.val (.ref a), l1, l2] (.ref a :: st) h := zx_go rfl rfl
theorem zs_179_5n : zrun zP sv C 179 5 [.val .null, l1, l2] st h = zrun zP sv C 179 6 [.val .null, l1, l2] (.null :: st) h := zx_go rfl rfl
theorem zs_179_6 : zrun zP sv C 179 6 [l0, .val (.int x), l2] st h = zrun zP sv C 179 7 [l0, .val (.int x), l2] (.int x :: st) h := zx_go rfl rfl
theorem zs_179_7 : zrun zP sv C 179 7 [l0, l1, l2] (.int x :: .ref a :: st) h = zpfd (h.1 a) 3 3 0 (.int x) (fun c => zrun zP sv C 179 10 [l0, l1, l2] st (zup h a c)) := zx_putf (x0 := 0) rfl rfl
theorem zs_179_10 : zrun zP sv C 179 10 [l0, l1, .val (.int x)] st h = zrun zP sv C 179 11 [l0, l1, .val (.int x)] (.int x :: st) h := zx_go rfl rfl
theorem zs_179_11 : zrun zP sv C 179 11 [l0, l1, l2] [.int x] h = some (.inl (some (.int x)), h) := zx_end rfl rfl
theorem zs_180_0 : zrun zP sv C 180 0 [.val (.ref a), l1, l2] st h = zrun zP sv C 180 1 [.val (.ref a), l1, l2] (.ref a :: st) h := zx_go rfl rfl
theorem zs_180_0n : zrun zP sv C 180 0 [.val .null, l1, l2] st h = zrun zP sv C 180 1 [.val .null, l1, l2] (.null :: st) h := zx_go rfl rfl
theorem zs_180_1 : zrun zP sv C 180 1 [l0, .val (.ref a), l2] st h = zrun zP sv C 180 2 [l0, .val (.ref a), l2] (.ref a :: st) h := zx_go rfl rfl
theorem zs_180_1n : zrun zP sv C 180 1 [l0, .val .null, l2] st h = zrun zP sv C 180 2 [l0, .val .null, l2] (.null :: st) h := zx_go rfl rfl
theorem zs_180_2 : zrun zP sv C 180 2 [l0, l1, l2] (.ref a :: st) h = zfld (h.1 a) 3 1 (fun v => zrun zP sv C 180 5 [l0, l1, l2] (v :: st) h) := zx_getf rfl rfl
theorem zs_180_5 : zrun zP sv C 180 5 [l0, l1, l2] (.int x :: .ref a :: st) h = zpfd (h.1 a) 3 1 0 (.int x) (fun c => zrun zP sv C 180 8 [l0, l1, l2] st (zup h a c)) := zx_putf (x0 := 0) rfl rfl
theorem zs_180_8 : zrun zP sv C 180 8 [l0, l1, l2] st h = zrun zP sv C 180 9 [l0, l1, l2] (.int 0 :: st) h := zx_go rfl rfl
theorem zs_180_9 (hs : znw l2 = true) : zrun zP sv C 180 9 [l0, l1, l2] (.int x :: st) h = zrun zP sv C 180 10 [l0, l1, .val (.int x)] st h := zx_st hs rfl rfl rfl rfl rfl rfl
theorem zs_180_10 : zrun zP sv C 180 10 [l0, l1, .val (.int x)] st h = zrun zP sv C 180 11 [l0, l1, .val (.int x)] (.int x :: st) h := zx_go rfl rfl
theorem zs_180_11 : zrun zP sv C 180 11 [.val (.ref a), l1, l2] st h = zrun zP sv C 180 12 [.val (.ref a), l1, l2] (.ref a :: st) h := zx_go rfl rfl
theorem zs_180_11n : zrun zP sv C 180 11 [.val .null, l1, l2] st h = zrun zP sv C 180 12 [.val .null, l1, l2] (.null :: st) h := zx_go rfl rfl
theorem zs_180_12 : zrun zP sv C 180 12 [l0, l1, l2] (.ref a :: st) h = zfld (h.1 a) 3 0 (fun v => zrun zP sv C 180 15 [l0, l1, l2] (v :: st) h) := zx_getf rfl rfl
theorem zs_180_15 : zrun zP sv C 180 15 [l0, l1, l2] (.ref a :: st) h = zaln (h.1 a) (fun v => zrun zP sv C 180 16 [l0, l1, l2] (.int v :: st) h) := zx_aln rfl rfl
theorem zs_180_16 : zrun zP sv C 180 16 [l0, l1, l2] (.int y :: .int x :: st) h = if x < y then zrun zP sv C 180 19 [l0, l1, l2] st h else zrun zP sv C 180 36 [l0, l1, l2] st h := (zx_ic rfl rfl).trans zc3_if
theorem zs_180_19 : zrun zP sv C 180 19 [.val (.ref a), l1, l2] st h = zrun zP sv C 180 20 [.val (.ref a), l1, l2] (.ref a :: st) h := zx_go rfl rfl
theorem zs_180_19n : zrun zP sv C 180 19 [.val .null, l1, l2] st h = zrun zP sv C 180 20 [.val .null, l1, l2] (.null :: st) h := zx_go rfl rfl
theorem zs_180_20 : zrun zP sv C 180 20 [l0, l1, l2] (.ref a :: st) h = zfld (h.1 a) 3 0 (fun v => zrun zP sv C 180 23 [l0, l1, l2] (v :: st) h) := zx_getf rfl rfl
theorem zs_180_23 : zrun zP sv C 180 23 [l0, l1, .val (.int x)] st h = zrun zP sv C 180 24 [l0, l1, .val (.int x)] (.int x :: st) h := zx_go rfl rfl
theorem zs_180_24 : zrun zP sv C 180 24 [l0, .val (.ref a), l2] st h = zrun zP sv C 180 25 [l0, .val (.ref a), l2] (.ref a :: st) h := zx_go rfl rfl
theorem zs_180_24n : zrun zP sv C 180 24 [l0, .val .null, l2] st h = zrun zP sv C 180 25 [l0, .val .null, l2] (.null :: st) h := zx_go rfl rfl
theorem zs_180_25 : zrun zP sv C 180 25 [l0, l1, .val (.int x)] st h = zrun zP sv C 180 26 [l0, l1, .val (.int x)] (.int x :: st) h := zx_go rfl rfl
theorem zs_180_26 : zrun zP sv C 180 26 [l0, l1, l2] [v1, .ref b, r0, r1] h = zrc (h.1 b) 3 (zbk (C 173 [.ref b, v1] h) (fun v h' => zrun zP sv C 180 29 [l0, l1, l2] (v.toList ++ [r0, r1]) h') (fun E h' => some (.inr E, h'))) := zx_cv (x0 := 3) rfl rfl rfl rfl rfl ⟨Nat.le_of_ble_eq_true rfl, rfl⟩ (fun _ _ => rfl)
theorem zs_180_29 : zrun zP sv C 180 29 [l0, l1, l2] (.ref b :: .int x :: .ref a :: st) h = zasr (h.1 a) (h.1 b) 25 6 x b (fun c => zrun zP sv C 180 30 [l0, l1, l2] st (zup h a c)) := zx_asr rfl rfl
theorem zs_180_29n : zrun zP sv C 180 29 [l0, l1, l2] (.null :: .int x :: .ref a :: st) h = zasn (h.1 a) 25 x (fun c => zrun zP sv C 180 30 [l0, l1, l2] st (zup h a c)) := zx_asn rfl rfl
theorem zs_180_30 : zrun zP sv C 180 30 [l0, l1, .val (.int x)] st h = zrun zP sv C 180 33 [l0, l1, .val (.int (x + (nI 1)))] st h := zx_ii rfl rfl rfl rfl rfl
theorem zs_180_33 : zrun zP sv C 180 33 [l0, l1, l2] st h = zrun zP sv C 180 10 [l0, l1, l2] st h := zx_go rfl rfl
theorem zs_180_36 : zrun zP sv C 180 36 [.val (.ref a), l1, l2] st h = zrun zP sv C 180 37 [.val (.ref a), l1, l2] (.ref a :: st) h := zx_go rfl rfl
theorem zs_180_36n : zrun zP sv C 180 36 [.val .null, l1, l2] st h = zrun zP sv C 180 37 [.val .null, l1, l2] (.null :: st) h := zx_go rfl rfl
theorem zs_180_37 : zrun zP sv C 180 37 [l0, l1, l2] (.ref a :: st) h = zfld (h.1 a) 3 2 (fun v => zrun zP sv C 180 40 [l0, l1, l2] (v :: st) h) := zx_getf rfl rfl
theorem zs_180_40 : zrun zP sv C 180 40 [l0, .val (.ref a), l2] st h = zrun zP sv C 180 41 [l0, .val (.ref a), l2] (.ref a :: st) h := zx_go rfl rfl
theorem zs_180_40n : zrun zP sv C 180 40 [l0, .val .null, l2] st h = zrun zP sv C 180 41 [l0, .val .null, l2] (.null :: st) h := zx_go rfl rfl
theorem zs_180_41 : zrun zP sv C 180 41 [l0, l1, l2] (.ref a :: st) h = zfld (h.1 a) 3 2 (fun v => zrun zP sv C 180 44 [l0, l1, l2] (v :: st) h) := zx_getf rfl rfl
theorem zs_180_44 : zrun zP sv C 180 44 [l0, l1, l2] [v1, .ref b] h = zrc (h.1 b) 4 (zbk (C 167 [.ref b, v1] h) (fun v h' => zrun zP sv C 180 47 [l0, l1, l2] (v.toList ++ []) h') (fun E h' => some (.inr E, h'))) := zx_cv (x0 := 4) rfl rfl rfl rfl rfl ⟨Nat.le_of_ble_eq_true rfl, rfl⟩ (fun _ _ => rfl)
theorem zs_180_47 : zrun zP sv C 180 47 [.val (.ref a), l1, l2] st h = zrun zP sv C 180 48 [.val (.ref a), l1, l2] (.ref a :: st) h := zx_go rfl rfl
theorem zs_180_47n : zrun zP sv C 180 47 [.val .null, l1, l2] st h = zrun zP sv C 180 48 [.val .null, l1, l2] (.null :: st) h := zx_go rfl rfl
theorem zs_180_48 : zrun zP sv C 180 48 [l0, .val (.ref a), l2] st h = zrun zP sv C 180 49 [l0, .val (.ref a), l2] (.ref a :: st) h := zx_go rfl rfl
theorem zs_180_48n : zrun zP sv C 180 48 [l0, .val .null, l2] st h = zrun zP sv C 180 49 [l0, .val .null, l2] (.null :: st) h := zx_go rfl rfl
theorem zs_180_49 : zrun zP sv C 180 49 [l0, l1, l2] (.ref a :: st) h = zfld (h.1 a) 3 3 (fun v => zrun zP sv C 180 52 [l0, l1, l2] (v :: st) h) := zx_getf rfl rfl
theorem zs_180_52 : zrun zP sv C 180 52 [l0, l1, l2] (.int x :: .ref a :: st) h = zpfd (h.1 a) 3 3 0 (.int x) (fun c => zrun zP sv C 180 55 [l0, l1, l2] st (zup h a c)) := zx_putf (x0 := 0) rfl rfl
theorem zs_180_55 : zrun zP sv C 180 55 [.val (.ref a), l1, l2] st h = zrun zP sv C 180 56 [.val (.ref a), l1, l2] (.ref a :: st) h := zx_go rfl rfl
theorem zs_180_55n : zrun zP sv C 180 55 [.val .null, l1, l2] st h = zrun zP sv C 180 56 [.val .null, l1, l2] (.null :: st) h := zx_go rfl rfl
theorem zs_180_56 : zrun zP sv C 180 56 [l0, .val (.ref a), l2] st h = zrun zP sv C 180 57 [l0, .val (.ref a), l2] (.ref a :: st) h := zx_go rfl rfl
theorem zs_180_56n : zrun zP sv C 180 56 [l0, .val .null, l2] st h = zrun zP sv C 180 57 [l0, .val .null, l2] (.null :: st) h := zx_go rfl rfl
theorem zs_180_57 : zrun zP sv C 180 57 [l0, l1, l2] (.ref a :: st) h = zfld (h.1 a) 3 4 (fun v => zrun zP sv C 180 60 [l0, l1, l2] (v :: st) h) := zx_getf rfl rfl
theorem zs_180_60 : zrun zP sv C 180 60 [l0, l1, l2] (.int x :: .ref a :: st) h = zpfd (h.1 a) 3 4 0 (.int x) (fun c => zrun zP sv C 180 63 [l0, l1, l2] st (zup h a c)) := zx_putf (x0 := 0) rfl rfl
theorem zs_180_63 : zrun zP sv C 180 63 [l0, l1, l2] [] h = some (.inl none, h) := zx_end rfl rfl
theorem zs_181_0 : zrun zP sv C 181 0 [.val (.ref a), l1] st h = zrun zP sv C 181 1 [.val (.ref a), l1] (.ref a :: st) h := zx_go rfl rfl
theorem zs_181_1 : zrun zP sv C 181 1 [l0, l1] [.ref a] h = zrun zP sv C 181 4 [l0, l1] [] h := zx_go rfl rfl
theorem zs_181_4 : zrun zP sv C 181 4 [.val (.ref a), l1] st h = zrun zP sv C 181 5 [.val (.ref a), l1] (.ref a :: st) h := zx_go rfl rfl
theorem zs_181_5 : zrun zP sv C 181 5 [l0, l1] st h = zrun zP sv C 181 8 [l0, l1] (.ref h.2.1 :: st) (znew h (4, [.null]) 1) := zx_go rfl rfl
theorem zs_181_8 : zrun zP sv C 181 8 [l0, l1] (.ref a :: st) h = zrun zP sv C 181 9 [l0, l1] (.ref a :: .ref a :: st) h := zx_go rfl rfl
theorem zs_181_9 : zrun zP sv C 181 9 [l0, .val (.int x)] st h = zrun zP sv C 181 10 [l0, .val (.int x)] (.int x :: st) h := zx_go rfl rfl
theorem zs_181_10 : zrun zP sv C 181 10 [l0, l1] [v1, .ref b, r0, r1] h = zrc (h.1 b) 4 (zbk (C 164 [.ref b, v1] h) (fun v h' => zrun zP sv C 181 13 [l0, l1] (v.toList ++ [r0, r1]) h') (fun E h' => some (.inr E, h'))) := zx_cv (x0 := 4) rfl rfl rfl rfl rfl ⟨Nat.le_of_ble_eq_true rfl, rfl⟩ (fun _ _ => rfl)
theorem zs_181_13 : zrun zP sv C 181 13 [l0, l1] (.ref b :: .ref a :: st) h = zpfd (h.1 a) 6 0 4 (.ref b) (fun c => zrun zP sv C 181 16 [l0, l1] st (zup h a c)) := zx_putf (x0 := 4) rfl rfl
theorem zs_181_16 : zrun zP sv C 181 16 [.val (.ref a), l1] st h = zrun zP sv C 181 17 [.val (.ref a), l1] (.ref a :: st) h := zx_go rfl rfl
theorem zs_181_17 : zrun zP sv C 181 17 [l0, l1] st h = zrun zP sv C 181 20 [l0, l1] (.ref h.2.1 :: st) (znew h (4, [.null]) 1) := zx_go rfl rfl
theorem zs_181_20 : zrun zP sv C 181 20 [l0, l1] (.ref a :: st) h = zrun zP sv C 181 21 [l0, l1] (.ref a :: .ref a :: st) h := zx_go rfl rfl
theorem zs_181_21 : zrun zP sv C 181 21 [l0, .val (.int x)] st h = zrun zP sv C 181 22 [l0, .val (.int x)] (.int x :: st) h := zx_go rfl rfl
theorem zs_181_22 : zrun zP sv C 181 22 [l0, l1] [v1, .ref b, r0, r1] h = zrc (h.1 b) 4 (zbk (C 164 [.ref b, v1] h) (fun v h' => zrun zP sv C 181 25 [l0, l1] (v.toList ++ [r0, r1]) h') (fun E h' => some (.inr E, h'))) := zx_cv (x0 := 4) rfl rfl rfl rfl rfl ⟨Nat.le_of_ble_eq_true rfl, rfl⟩ (fun _ _ => rfl)
theorem zs_181_25 : zrun zP sv C 181 25 [l0, l1] (.ref b :: .ref a :: st) h = zpfd (h.1 a) 6 1 4 (.ref b) (fun c => zrun zP sv C 181 28 [l0, l1] st (zup h a c)) := zx_putf (x0 := 4) rfl rfl
theorem zs_181_28 : zrun zP sv C 181 28 [.val (.ref a), l1] st h = zrun zP sv C 181 29 [.val (.ref a), l1] (.ref a :: st) h := zx_go rfl rfl
theorem zs_181_29 : zrun zP sv C 181 29 [l0, l1] st h = zrun zP sv C 181 32 [l0, l1] (.ref h.2.1 :: st) (znew h (4, [.null]) 1) := zx_go rfl rfl
theorem zs_181_32 : zrun zP sv C 181 32 [l0, l1] (.ref a :: st) h = zrun zP sv C 181 33 [l0, l1] (.ref a :: .ref a :: st) h := zx_go rfl rfl
theorem zs_181_33 : zrun zP sv C 181 33 [l0, .val (.int x)] st h = zrun zP sv C 181 34 [l0, .val (.int x)] (.int x :: st) h := zx_go rfl rfl
theorem zs_181_34 : zrun zP sv C 181 34 [l0, l1] [v1, .ref b, r0, r1] h = zrc (h.1 b) 4 (zbk (C 164 [.ref b, v1] h) (fun v h' => zrun zP sv C 181 37 [l0, l1] (v.toList ++ [r0, r1]) h') (fun E h' => some (.inr E, h'))) := zx_cv (x0 := 4) rfl rfl rfl rfl rfl ⟨Nat.le_of_ble_eq_true rfl, rfl⟩ (fun _ _ => rfl)
theorem zs_181_37 : zrun zP sv C 181 37 [l0, l1] (.ref b :: .ref a :: st) h = zpfd (h.1 a) 6 2 4 (.ref b) (fun c => zrun zP sv C 181 40 [l0, l1] st (zup h a c)) := zx_putf (x0 := 4) rfl rfl
theorem zs_181_40 : zrun zP sv C 181 40 [.val (.ref a), l1] st h = zrun zP sv C 181 41 [.val (.ref a), l1] (.ref a :: st) h := zx_go rfl rfl
theorem zs_181_41 : zrun zP sv C 181 41 [l0, l1] st h = zrun zP sv C 181 44 [l0, l1] (.ref h.2.1 :: st) (znew h (4, [.null]) 1) := zx_go rfl rfl
theorem zs_181_44 : zrun zP sv C 181 44 [l0, l1] (.ref a :: st) h = zrun zP sv C 181 45 [l0, l1] (.ref a :: .ref a :: st) h := zx_go rfl rfl
theorem zs_181_45 : zrun zP sv C 181 45 [l0, .val (.int x)] st h = zrun zP sv C 181 46 [l0, .val (.int x)] (.int x :: st) h := zx_go rfl rfl
theorem zs_181_46 : zrun zP sv C 181 46 [l0, l1] [v1, .ref b, r0, r1] h = zrc (h.1 b) 4 (zbk (C 164 [.ref b, v1] h) (fun v h' => zrun zP sv C 181 49 [l0, l1] (v.toList ++ [r0, r1]) h') (fun E h' => some (.inr E, h'))) := zx_cv (x0 := 4) rfl rfl rfl rfl rfl ⟨Nat.le_of_ble_eq_true rfl, rfl⟩ (fun _ _ => rfl)
theorem zs_181_49 : zrun zP sv C 181 49 [l0, l1] (.ref b :: .ref a :: st) h = zpfd (h.1 a) 6 3 4 (.ref b) (fun c => zrun zP sv C 181 52 [l0, l1] st (zup h a c)) := zx_putf (x0 := 4) rfl rfl
theorem zs_181_52 : zrun zP sv C 181 52 [.val (.ref a), l1] st h = zrun zP sv C 181 53 [.val (.ref a), l1] (.ref a :: st) h := zx_go rfl rfl
theorem zs_181_53 : zrun zP sv C 181 53 [l0, .val (.int x)] st h = zrun zP sv C 181 54 [l0, .val (.int x)] (.int x :: st) h := zx_go rfl rfl
theorem zs_181_54 : zrun zP sv C 181 54 [l0, l1] (.int x :: .ref a :: st) h = zpfd (h.1 a) 6 4 0 (.int x) (fun c => zrun zP sv C 181 57 [l0, l1] st (zup h a c)) := zx_putf (x0 := 0) rfl rfl
theorem zs_181_57 : zrun zP sv C 181 57 [.val (.ref a), l1] st h = zrun zP sv C 181 58 [.val (.ref a), l1] (.ref a :: st) h := zx_go rfl rfl
theorem zs_181_58 : zrun zP sv C 181 58 [l0, l1] st h = zrun zP sv C 181 59 [l0, l1] (.int 0 :: st) h := zx_go rfl rfl
theorem zs_181_59 : zrun zP sv C 181 59 [l0, l1] (.int x :: .ref a :: st) h = zpfd (h.1 a) 6 5 0 (.int x) (fun c => zrun zP sv C 181 62 [l0, l1] st (zup h a c)) := zx_putf (x0 := 0) rfl rfl
theorem zs_181_62 : zrun zP sv C 181 62 [l0, l1] [] h = some (.inl none, h) := zx_end rfl rfl
theorem zs_182_0 : zrun zP sv C 182 0 [.val (.ref a)] st h = zrun zP sv C 182 1 [.val (.ref a)] (.ref a :: st) h := zx_go rfl rfl
theorem zs_182_1 : zrun zP sv C 182 1 [l0] (.ref a :: st) h = zfld (h.1 a) 6 5 (fun v => zrun zP sv C 182 4 [l0] (v :: st) h) := zx_getf rfl rfl
theorem zs_182_4 : zrun zP sv C 182 4 [l0] [.int x] h = some (.inl (some (.int x)), h) := zx_end rfl rfl
theorem zs_183_0 : zrun zP sv C 183 0 [.val (.ref a)] st h = zrun zP sv C 183 1 [.val (.ref a)] (.ref a :: st) h := zx_go rfl rfl
theorem zs_183_1 : zrun zP sv C 183 1 [l0] (.ref a :: st) h = zfld (h.1 a) 6 5 (fun v => zrun zP sv C 183 4 [l0] (v :: st) h) := zx_getf rfl rfl
theorem zs_183_4 : zrun zP sv C 183 4 [l0] st h = zrun zP sv C 183 5 [l0] (.int (nI 1) :: st) h := zx_go rfl rfl
theorem zs_183_5 : zrun zP sv C 183 5 [l0] (.int y :: .int x :: st) h = zrun zP sv C 183 6 [l0] (.int (x - y) :: st) h := zx_go rfl rfl
theorem zs_183_6 : zrun zP sv C 183 6 [l0] [.int x] h = some (.inl (some (.int x)), h) := zx_end rfl rfl
theorem zs_184_0 : zrun zP sv C 184 0 [.val (.ref a), l1] st h = zrun zP sv C 184 1 [.val (.ref a), l1] (.ref a :: st) h := zx_go rfl rfl
theorem zs_184_1 : zrun zP sv C 184 1 [l0, l1] (.ref a :: st) h = zfld (h.1 a) 6 0 (fun v => zrun zP sv C 184 4 [l0, l1] (v :: st) h) := zx_getf rfl rfl
theorem zs_184_4 : zrun zP sv C 184 4 [l0, .val (.int x)] st h = zrun zP sv C 184 5 [l0, .val (.int x)] (.int x :: st) h := zx_go rfl rfl
theorem zs_184_5 : zrun zP sv C 184 5 [l0, l1] [v1, .ref b] h = zrc (h.1 b) 4 (zbk (C 165 [.ref b, v1] h) (fun v h' => zrun zP sv C 184 8 [l0, l1] (v.toList ++ []) h') (fun E h' => some (.inr E, h'))) := zx_cv (x0 := 4) rfl rfl rfl rfl rfl ⟨Nat.le_of_ble_eq_true rfl, rfl⟩ (fun _ _ => rfl)
theorem zs_184_8 : zrun zP sv C 184 8 [l0, l1] [.int x] h = some (.inl (some (.int x)), h) := zx_end rfl rfl
theorem zs_185_0 : zrun zP sv C 185 0 [.val (.ref a), l1] st h = zrun zP sv C 185 1 [.val (.ref a), l1] (.ref a :: st) h := zx_go rfl rfl
theorem zs_185_1 : zrun zP sv C 185 1 [l0, l1] (.ref a :: st) h = zfld (h.1 a) 6 1 (fun v => zrun zP sv C 185 4 [l0, l1] (v :: st) h) := zx_getf rfl rfl
theorem zs_185_4 : zrun zP sv C 185 4 [l0, .val (.int x)] st h = zrun zP sv C 185 5 [l0, .val (.int x)] (.int x :: st) h := zx_go rfl rfl
theorem zs_185_5 : zrun zP sv C 185 5 [l0, l1] [v1, .ref b] h = zrc (h.1 b) 4 (zbk (C 165 [.ref b, v1] h) (fun v h' => zrun zP sv C 185 8 [l0, l1] (v.toList ++ []) h') (fun E h' => some (.inr E, h'))) := zx_cv (x0 := 4) rfl rfl rfl rfl rfl ⟨Nat.le_of_ble_eq_true rfl, rfl⟩ (fun _ _ => rfl)
theorem zs_185_8 : zrun zP sv C 185 8 [l0, l1] [.int x] h = some (.inl (some (.int x)), h) := zx_end rfl rfl
theorem zs_186_0 : zrun zP sv C 186 0 [.val (.ref a), l1] st h = zrun zP sv C 186 1 [.val (.ref a), l1] (.ref a :: st) h := zx_go rfl rfl
theorem zs_186_1 : zrun zP sv C 186 1 [l0, l1] (.ref a :: st) h = zfld (h.1 a) 6 2 (fun v => zrun zP sv C 186 4 [l0, l1] (v :: st) h) := zx_getf rfl rfl
theorem zs_186_4 : zrun zP sv C 186 4 [l0, .val (.int x)] st h = zrun zP sv C 186 5 [l0, .val (.int x)] (.int x :: st) h := zx_go rfl rfl
theorem zs_186_5 : zrun zP sv C 186 5 [l0, l1] [v1, .ref b] h = zrc (h.1 b) 4 (zbk (C 165 [.ref b, v1] h) (fun v h' => zrun zP sv C 186 8 [l0, l1] (v.toList ++ []) h') (fun E h' => some (.inr E, h'))) := zx_cv (x0 := 4) rfl rfl rfl rfl rfl ⟨Nat.le_of_ble_eq_true rfl, rfl⟩ (fun _ _ => rfl)
theorem zs_186_8 : zrun zP sv C 186 8 [l0, l1] [.int x] h = some (.inl (some (.int x)), h) := zx_end rfl rfl
theorem zs_187_0 : zrun zP sv C 187 0 [.val (.ref a), l1] st h = zrun zP sv C 187 1 [.val (.ref a), l1] (.ref a :: st) h := zx_go rfl rfl
theorem zs_187_1 : zrun zP sv C 187 1 [l0, l1] (.ref a :: st) h = zfld (h.1 a) 6 3 (fun v => zrun zP sv C 187 4 [l0, l1] (v :: st) h) := zx_getf rfl rfl
theorem zs_187_4 : zrun zP sv C 187 4 [l0, .val (.int x)] st h = zrun zP sv C 187 5 [l0, .val (.int x)] (.int x :: st) h := zx_go rfl rfl
theorem zs_187_5 : zrun zP sv C 187 5 [l0, l1] [v1, .ref b] h = zrc (h.1 b) 4 (zbk (C 165 [.ref b, v1] h) (fun v h' => zrun zP sv C 187 8 [l0, l1] (v.toList ++ []) h') (fun E h' => some (.inr E, h'))) := zx_cv (x0 := 4) rfl rfl rfl rfl rfl ⟨Nat.le_of_ble_eq_true rfl, rfl⟩ (fun _ _ => rfl)
theorem zs_187_8 : zrun zP sv C 187 8 [l0, l1] [.int x] h = some (.inl (some (.int x)), h) := zx_end rfl rfl
theorem zs_188_0 : zrun zP sv C 188 0 [.val (.ref a), l1, l2] st h = zrun zP sv C 188 1 [.val (.ref a), l1, l2] (.ref a :: st) h := zx_go rfl rfl
theorem zs_188_1 : zrun zP sv C 188 1 [l0, .val (.int x), l2] st h = zrun zP sv C 188 2 [l0, .val (.int x), l2] (.int x :: st) h := zx_go rfl rfl
theorem zs_188_2 : zrun zP sv C 188 2 [l0, l1, l2] [v1, .ref b] h = zrc (h.1 b) 6 (zbk (C 184 [.ref b, v1] h) (fun v h' => zrun zP sv C 188 5 [l0, l1, l2] (v.toList ++ []) h') (fun E h' => some (.inr E, h'))) := zx_cv (x0 := 6) rfl rfl rfl rfl rfl ⟨Nat.le_of_ble_eq_true rfl, rfl⟩ (fun _ _ => rfl)
theorem zs_188_5 : zrun zP sv C 188 5 [l0, l1, l2] st h = zrun zP sv C 188 7 [l0, l1, l2] (.int (nI 118) :: st) h := zx_go rfl rfl
theorem zs_188_7 : zrun zP sv C 188 7 [l0, l1, l2] (.int y :: .int x :: st) h = if x = y then zrun zP sv C 188 10 [l0, l1, l2] st h else zrun zP sv C 188 23 [l0, l1, l2] st h := (zx_ic rfl rfl).trans zc1_if
theorem zs_188_10 : zrun zP sv C 188 10 [.val (.ref a), l1, l2] st h = zrun zP sv C 188 11 [.val (.ref a), l1, l2] (.ref a :: st) h := zx_go rfl rfl
theorem zs_188_11 : zrun zP sv C 188 11 [l0, .val (.int x), l2] st h = zrun zP sv C 188 12 [l0, .val (.int x), l2] (.int x :: st) h := zx_go rfl rfl
theorem zs_188_12 : zrun zP sv C 188 12 [l0, l1, l2] [v1, .ref b] h = zrc (h.1 b) 6 (zbk (C 185 [.ref b, v1] h) (fun v h' => zrun zP sv C 188 15 [l0, l1, l2] (v.toList ++ []) h') (fun E h' => some (.inr E, h'))) := zx_cv (x0 := 6) rfl rfl rfl rfl rfl ⟨Nat.le_of_ble_eq_true rfl, rfl⟩ (fun _ _ => rfl)
theorem zs_188_15 : zrun zP sv C 188 15 [l0, l1, .val (.int x)] st h = zrun zP sv C 188 16 [l0, l1, .val (.int x)] (.int x :: st) h := zx_go rfl rfl
theorem zs_188_16 : zrun zP sv C 188 16 [l0, l1, l2] (.int y :: .int x :: st) h = if x = y then zrun zP sv C 188 19 [l0, l1, l2] st h else zrun zP sv C 188 23 [l0, l1, l2] st h := (zx_ic rfl rfl).trans zc1_if
theorem zs_188_19 : zrun zP sv C 188 19 [l0, l1, l2] st h = zrun zP sv C 188 20 [l0, l1, l2] (.int (nI 1) :: st) h := zx_go rfl rfl
theorem zs_188_20 : zrun zP sv C 188 20 [l0, l1, l2] st h = zrun zP sv C 188 24 [l0, l1, l2] st h := zx_go rfl rfl
theorem zs_188_23 : zrun zP sv C 188 23 [l0, l1, l2] st h = zrun zP sv C 188 24 [l0, l1, l2] (.int 0 :: st) h := zx_go rfl rfl
theorem zs_188_24 : zrun zP sv C 188 24 [l0, l1, l2] [.int x] h = zgd (zty 5 (.int x)) (some (.inl (some (.int x)), h)) := zx_rt rfl
theorem zs_189_0 : zrun zP sv C 189 0 [.val (.ref a), l1, l2] st h = zrun zP sv C 189 1 [.val (.ref a), l1, l2] (.ref a :: st) h := zx_go rfl rfl
theorem zs_189_1 : zrun zP sv C 189 1 [l0, .val (.int x), l2] st h = zrun zP sv C 189 2 [l0, .val (.int x), l2] (.int x :: st) h := zx_go rfl rfl
theorem zs_189_2 : zrun zP sv C 189 2 [l0, l1, l2] [v1, .ref b] h = zrc (h.1 b) 6 (zbk (C 184 [.ref b, v1] h) (fun v h' => zrun zP sv C 189 5 [l0, l1, l2] (v.toList ++ []) h') (fun E h' => some (.inr E, h'))) := zx_cv (x0 := 6) rfl rfl rfl rfl rfl ⟨Nat.le_of_ble_eq_true rfl, rfl⟩ (fun _ _ => rfl)
theorem zs_189_5 : zrun zP sv C 189 5 [l0, l1, l2] st h = zrun zP sv C 189 7 [l0, l1, l2] (.int (nI 99) :: st) h := zx_go rfl rfl
theorem zs_189_7 : zrun zP sv C 189 7 [l0, l1, l2] (.int y :: .int x :: st) h = if x = y then zrun zP sv C 189 10 [l0, l1, l2] st h else zrun zP sv C 189 23 [l0, l1, l2] st h := (zx_ic rfl rfl).trans zc1_if
theorem zs_189_10 : zrun zP sv C 189 10 [.val (.ref a), l1, l2] st h = zrun zP sv C 189 11 [.val (.ref a), l1, l2] (.ref a :: st) h := zx_go rfl rfl
theorem zs_189_11 : zrun zP sv C 189 11 [l0, .val (.int x), l2] st h = zrun zP sv C 189 12 [l0, .val (.int x), l2] (.int x :: st) h := zx_go rfl rfl
theorem zs_189_12 : zrun zP sv C 189 12 [l0, l1, l2] [v1, .ref b] h = zrc (h.1 b) 6 (zbk (C 185 [.ref b, v1] h) (fun v h' => zrun zP sv C 189 15 [l0, l1, l2] (v.toList ++ []) h') (fun E h' => some (.inr E, h'))) := zx_cv (x0 := 6) rfl rfl rfl rfl rfl ⟨Nat.le_of_ble_eq_true rfl, rfl⟩ (fun _ _ => rfl)
theorem zs_189_15 : zrun zP sv C 189 15 [l0, l1, .val (.int x)] st h = zrun zP sv C 189 16 [l0, l1, .val (.int x)] (.int x :: st) h := zx_go rfl rfl
theorem zs_189_16 : zrun zP sv C 189 16 [l0, l1, l2] (.int y :: .int x :: st) h = if x = y then zrun zP sv C 189 19 [l0, l1, l2] st h else zrun zP sv C 189 23 [l0, l1, l2] st h := (zx_ic rfl rfl).trans zc1_if
theorem zs_189_19 : zrun zP sv C 189 19 [l0, l1, l2] st h = zrun zP sv C 189 20 [l0, l1, l2] (.int (nI 1) :: st) h := zx_go rfl rfl
theorem zs_189_20 : zrun zP sv C 189 20 [l0, l1, l2] st h = zrun zP sv C 189 24 [l0, l1, l2] st h := zx_go rfl rfl
theorem zs_189_23 : zrun zP sv C 189 23 [l0, l1, l2] st h = zrun zP sv C 189 24 [l0, l1, l2] (.int 0 :: st) h := zx_go rfl rfl
theorem zs_189_24 : zrun zP sv C 189 24 [l0, l1, l2] [.int x] h = zgd (zty 5 (.int x)) (some (.inl (some (.int x)), h)) := zx_rt rfl
theorem zs_190_0 : zrun zP sv C 190 0 [.val (.ref a)] st h = zrun zP sv C 190 1 [.val (.ref a)] (.ref a :: st) h := zx_go rfl rfl
theorem zs_190_1 : zrun zP sv C 190 1 [l0] st h = zrun zP sv C 190 2 [l0] (.int 0 :: st) h := zx_go rfl rfl
theorem zs_190_2 : zrun zP sv C 190 2 [l0] (.int x :: .ref a :: st) h = zpfd (h.1 a) 6 5 0 (.int x) (fun c => zrun zP sv C 190 5 [l0] st (zup h a c)) := zx_putf (x0 := 0) rfl rfl
theorem zs_190_5 : zrun zP sv C 190 5 [l0] [] h = some (.inl none, h) := zx_end rfl rfl
theorem zs_191_0 : zrun zP sv C 191 0 [.val (.ref a), l1, l2, l3, l4] st h = zrun zP sv C 191 1 [.val (.ref a), l1, l2, l3, l4] (.ref a :: st) h := zx_go rfl rfl
theorem zs_191_1 : zrun zP sv C 191 1 [l0, l1, l2, l3, l4] (.ref a :: st) h = zfld (h.1 a) 6 5 (fun v => zrun zP sv C 191 4 [l0, l1, l2, l3, l4] (v :: st) h) := zx_getf rfl rfl
theorem zs_191_4 : zrun zP sv C 191 4 [.val (.ref a), l1, l2, l3, l4] st h = zrun zP sv C 191 5 [.val (.ref a), l1, l2, l3, l4] (.ref a :: st) h := zx_go rfl rfl
theorem zs_191_5 : zrun zP sv C 191 5 [l0, l1, l2, l3, l4] (.ref a :: st) h = zfld (h.1 a) 6 4 (fun v => zrun zP sv C 191 8 [l0, l1, l2, l3, l4] (v :: st) h) := zx_getf rfl rfl
theorem zs_191_8 : zrun zP sv C 191 8 [l0, l1, l2, l3, l4] (.int y :: .int x :: st) h = if x < y then zrun zP sv C 191 13 [l0, l1, l2, l3, l4] st h else zrun zP sv C 191 11 [l0, l1, l2, l3, l4] st h := (zx_ic rfl rfl).trans zc2_if
theorem zs_191_11 : zrun zP sv C 191 11 [l0, l1, l2, l3, l4] st h = zrun zP sv C 191 12 [l0, l1, l2, l3, l4] (.int (-1) :: st) h := zx_go rfl rfl
theorem zs_191_12 : zrun zP sv C 191 12 [l0, l1, l2, l3, l4] [.int x] h = some (.inl (some (.int x)), h) := zx_end rfl rfl
theorem zs_191_13 : zrun zP sv C 191 13 [.val (.ref a), l1, l2, l3, l4] st h = zrun zP sv C 191 14 [.val (.ref a), l1, l2, l3, l4] (.ref a :: st) h := zx_go rfl rfl
theorem zs_191_14 : zrun zP sv C 191 14 [l0, l1, l2, l3, l4] (.ref a :: st) h = zfld (h.1 a) 6 0 (fun v => zrun zP sv C 191 17 [l0, l1, l2, l3, l4] (v :: st) h) := zx_getf rfl rfl
theorem zs_191_17 : zrun zP sv C 191 17 [.val (.ref a), l1, l2, l3, l4] st h = zrun zP sv C 191 18 [.val (.ref a), l1, l2, l3, l4] (.ref a :: st) h := zx_go rfl rfl
theorem zs_191_18 : zrun zP sv C 191 18 [l0, l1, l2, l3, l4] (.ref a :: st) h = zfld (h.1 a) 6 5 (fun v => zrun zP sv C 191 21 [l0, l1, l2, l3, l4] (v :: st) h) := zx_getf rfl rfl
theorem zs_191_21 : zrun zP sv C 191 21 [l0, .val (.int x), l2, l3, l4] st h = zrun zP sv C 191 22 [l0, .val (.int x), l2, l3, l4] (.int x :: st) h := zx_go rfl rfl
theorem zs_191_22 : zrun zP sv C 191 22 [l0, l1, l2, l3, l4] [v2, v1, .ref b] h = zrc (h.1 b) 4 (zbk (C 166 [.ref b, v1, v2] h) (fun v h' => zrun zP sv C 191 25 [l0, l1, l2, l3, l4] (v.toList ++ []) h') (fun E h' => some (.inr E, h'))) := zx_cv (x0 := 4) rfl rfl rfl rfl rfl ⟨Nat.le_of_ble_eq_true rfl, rfl⟩ (fun _ _ => rfl)
theorem zs_191_25 : zrun zP sv C 191 25 [.val (.ref a), l1, l2, l3, l4] st h = zrun zP sv C 191 26 [.val (.ref a), l1, l2, l3, l4] (.ref a :: st) h := zx_go rfl rfl
theorem zs_191_26 : zrun zP sv C 191 26 [l0, l1, l2, l3, l4] (.ref a :: st) h = zfld (h.1 a) 6 1 (fun v => zrun zP sv C 191 29 [l0, l1, l2, l3, l4] (v :: st) h) := zx_getf rfl rfl
theorem zs_191_29 : zrun zP sv C 191 29 [.val (.ref a), l1, l2, l3, l4] st h = zrun zP sv C 191 30 [.val (.ref a), l1, l2, l3, l4] (.ref a :: st) h := zx_go rfl rfl
theorem zs_191_30 : zrun zP sv C 191 30 [l0, l1, l2, l3, l4] (.ref a :: st) h = zfld (h.1 a) 6 5 (fun v => zrun zP sv C 191 33 [l0, l1, l2, l3, l4] (v :: st) h) := zx_getf rfl rfl
theorem zs_191_33 : zrun zP sv C 191 33 [l0, l1, .val (.int x), l3, l4] st h = zrun zP sv C 191 34 [l0, l1, .val (.int x), l3, l4] (.int x :: st) h := zx_go rfl rfl
theorem zs_191_34 : zrun zP sv C 191 34 [l0, l1, l2, l3, l4] [v2, v1, .ref b] h = zrc (h.1 b) 4 (zbk (C 166 [.ref b, v1, v2] h) (fun v h' => zrun zP sv C 191 37 [l0, l1, l2, l3, l4] (v.toList ++ []) h') (fun E h' => some (.inr E, h'))) := zx_cv (x0 := 4) rfl rfl rfl rfl rfl ⟨Nat.le_of_ble_eq_true rfl, rfl⟩ (fun _ _ => rfl)
theorem zs_191_37 : zrun zP sv C 191 37 [.val (.ref a), l1, l2, l3, l4] st h = zrun zP sv C 191 38 [.val (.ref a), l1, l2, l3, l4] (.ref a :: st) h := zx_go rfl rfl
theorem zs_191_38 : zrun zP sv C 191 38 [l0, l1, l2, l3, l4] (.ref a :: st) h = zfld (h.1 a) 6 2 (fun v => zrun zP sv C 191 41 [l0, l1, l2, l3, l4] (v :: st) h) := zx_getf rfl rfl
theorem zs_191_41 : zrun zP sv C 191 41 [.val (.ref a), l1, l2, l3, l4] st h = zrun zP sv C 191 42 [.val (.ref a), l1, l2, l3, l4] (.ref a :: st) h := zx_go rfl rfl
theorem zs_191_42 : zrun zP sv C 191 42 [l0, l1, l2, l3, l4] (.ref a :: st) h = zfld (h.1 a) 6 5 (fun v => zrun zP sv C 191 45 [l0, l1, l2, l3, l4] (v :: st) h) := zx_getf rfl rfl
theorem zs_191_45 : zrun zP sv C 191 45 [l0, l1, l2, .val (.int x), l4] st h = zrun zP sv C 191 46 [l0, l1, l2, .val (.int x), l4] (.int x :: st) h := zx_go rfl rfl
theorem zs_191_46 : zrun zP sv C 191 46 [l0, l1, l2, l3, l4] [v2, v1, .ref b] h = zrc (h.1 b) 4 (zbk (C 166 [.ref b, v1, v2] h) (fun v h' => zrun zP sv C 191 49 [l0, l1, l2, l3, l4] (v.toList ++ []) h') (fun E h' => some (.inr E, h'))) := zx_cv (x0 := 4) rfl rfl rfl rfl rfl ⟨Nat.le_of_ble_eq_true rfl, rfl⟩ (fun _ _ => rfl)
theorem zs_191_49 : zrun zP sv C 191 49 [.val (.ref a), l1, l2, l3, l4] st h = zrun zP sv C 191 50 [.val (.ref a), l1, l2, l3, l4] (.ref a :: st) h := zx_go rfl rfl
theorem zs_191_50 : zrun zP sv C 191 50 [l0, l1, l2, l3, l4] (.ref a :: st) h = zfld (h.1 a) 6 3 (fun v => zrun zP sv C 191 53 [l0, l1, l2, l3, l4] (v :: st) h) := zx_getf rfl rfl
theorem zs_191_53 : zrun zP sv C 191 53 [.val (.ref a), l1, l2, l3, l4] st h = zrun zP sv C 191 54 [.val (.ref a), l1, l2, l3, l4] (.ref a :: st) h := zx_go rfl rfl
theorem zs_191_54 : zrun zP sv C 191 54 [l0, l1, l2, l3, l4] (.ref a :: st) h = zfld (h.1 a) 6 5 (fun v => zrun zP sv C 191 57 [l0, l1, l2, l3, l4] (v :: st) h) := zx_getf rfl rfl
theorem zs_191_57 : zrun zP sv C 191 57 [l0, l1, l2, l3, .val (.int x)] st h = zrun zP sv C 191 59 [l0, l1, l2, l3, .val (.int x)] (.int x :: st) h := zx_go rfl rfl
theorem zs_191_59 : zrun zP sv C 191 59 [l0, l1, l2, l3, l4] [v2, v1, .ref b] h = zrc (h.1 b) 4 (zbk (C 166 [.ref b, v1, v2] h) (fun v h' => zrun zP sv C 191 62 [l0, l1, l2, l3, l4] (v.toList ++ []) h') (fun E h' => some (.inr E, h'))) := zx_cv (x0 := 4) rfl rfl rfl rfl rfl ⟨Nat.le_of_ble_eq_true rfl, rfl⟩ (fun _ _ => rfl)
theorem zs_191_62 : zrun zP sv C 191 62 [.val (.ref a), l1, l2, l3, l4] st h = zrun zP sv C 191 63 [.val (.ref a), l1, l2, l3, l4] (.ref a :: st) h := zx_go rfl rfl
theorem zs_191_63 : zrun zP sv C 191 63 [l0, l1, l2, l3, l4] (.ref a :: st) h = zrun zP sv C 191 64 [l0, l1, l2, l3, l4] (.ref a :: .ref a :: st) h := zx_go rfl rfl
theorem zs_191_64 : zrun zP sv C 191 64 [l0, l1, l2, l3, l4] (.ref a :: st) h = zfld (h.1 a) 6 5 (fun v => zrun zP sv C 191 67 [l0, l1, l2, l3, l4] (v :: st) h) := zx_getf rfl rfl
theorem zs_191_67 : zrun zP sv C 191 67 [l0, l1, l2, l3, l4] st h = zrun zP sv C 191 68 [l0, l1, l2, l3, l4] (.int (nI 1) :: st) h := zx_go rfl rfl
theorem zs_191_68 : zrun zP sv C 191 68 [l0, l1, l2, l3, l4] (.int y :: .int x :: st) h = zrun zP sv C 191 69 [l0, l1, l2, l3, l4] (.int (x + y) :: st) h := zx_go rfl rfl
theorem zs_191_69 : zrun zP sv C 191 69 [l0, l1, l2, l3, l4] (.int x :: .ref a :: st) h = zpfd (h.1 a) 6 5 0 (.int x) (fun c => zrun zP sv C 191 72 [l0, l1, l2, l3, l4] st (zup h a c)) := zx_putf (x0 := 0) rfl rfl
theorem zs_191_72 : zrun zP sv C 191 72 [.val (.ref a), l1, l2, l3, l4] st h = zrun zP sv C 191 73 [.val (.ref a), l1, l2, l3, l4] (.ref a :: st) h := zx_go rfl rfl
theorem zs_191_73 : zrun zP sv C 191 73 [l0, l1, l2, l3, l4] (.ref a :: st) h = zfld (h.1 a) 6 5 (fun v => zrun zP sv C 191 76 [l0, l1, l2, l3, l4] (v :: st) h) := zx_getf rfl rfl
theorem zs_191_76 : zrun zP sv C 191 76 [l0, l1, l2, l3, l4] st h = zrun zP sv C 191 77 [l0, l1, l2, l3, l4] (.int (nI 1) :: st) h := zx_go rfl rfl
theorem zs_191_77 : zrun zP sv C 191 77 [l0, l1, l2, l3, l4] (.int y :: .int x :: st) h = zrun zP sv C 191 78 [l0, l1, l2, l3, l4] (.int (x - y) :: st) h := zx_go rfl rfl
theorem zs_191_78 : zrun zP sv C 191 78 [l0, l1, l2, l3, l4] [.int x] h = some (.inl (some (.int x)), h) := zx_end rfl rfl
theorem zs_192_0 : zrun zP sv C 192 0 [.val (.ref a), l1] st h = zrun zP sv C 192 1 [.val (.ref a), l1] (.ref a :: st) h := zx_go rfl rfl
theorem zs_192_1 : zrun zP sv C 192 1 [l0, l1] st h = zrun zP sv C 192 3 [l0, l1] (.int (nI 99) :: st) h := zx_go rfl rfl
theorem zs_192_3 : zrun zP sv C 192 3 [l0, .val (.int x)] st h = zrun zP sv C 192 4 [l0, .val (.int x)] (.int x :: st) h := zx_go rfl rfl
theorem zs_192_4 : zrun zP sv C 192 4 [l0, l1] st h = zrun zP sv C 192 5 [l0, l1] (.int (-1) :: st) h := zx_go rfl rfl
theorem zs_192_5 : zrun zP sv C 192 5 [l0, l1] st h = zrun zP sv C 192 6 [l0, l1] (.int (-1) :: st) h := zx_go rfl rfl
theorem zs_192_6 : zrun zP sv C 192 6 [l0, l1] [v4, v3, v2, v1, .ref b] h = zrc (h.1 b) 6 (zbk (C 191 [.ref b, v1, v2, v3, v4] h) (fun v h' => zrun zP sv C 192 9 [l0, l1] (v.toList ++ []) h') (fun E h' => some (.inr E, h'))) := zx_cv (x0 := 6) rfl rfl rfl rfl rfl ⟨Nat.le_of_ble_eq_true rfl, rfl⟩ (fun _ _ => rfl)
theorem zs_192_9 : zrun zP sv C 192 9 [l0, l1] [.int x] h = some (.inl (some (.int x)), h) := zx_end rfl rfl
theorem zs_193_0 : zrun zP sv C 193 0 [.val (.ref a), l1] st h = zrun zP sv C 193 1 [.val (.ref a), l1] (.ref a :: st) h := zx_go rfl rfl
theorem zs_193_1 : zrun zP sv C 193 1 [l0, l1] st h = zrun zP sv C 193 3 [l0, l1] (.int (nI 110) :: st) h := zx_go rfl rfl
theorem zs_193_3 : zrun zP sv C 193 3 [l0, l1] st h = zrun zP sv C 193 4 [l0, l1] (.int 0 :: st) h := zx_go rfl rfl
theorem zs_193_4 : zrun zP sv C 193 4 [l0, .val (.int x)] st h = zrun zP sv C 193 5 [l0, .val (.int x)] (.int x :: st) h := zx_go rfl rfl
theorem zs_193_5 : zrun zP sv C 193 5 [l0, l1] st h = zrun zP sv C 193 6 [l0, l1] (.int (-1) :: st) h := zx_go rfl rfl
theorem zs_193_6 : zrun zP sv C 193 6 [l0, l1] [v4, v3, v2, v1, .ref b] h = zrc (h.1 b) 6 (zbk (C 191 [.ref b, v1, v2, v3, v4] h) (fun v h' => zrun zP sv C 193 9 [l0, l1] (v.toList ++ []) h') (fun E h' => some (.inr E, h'))) := zx_cv (x0 := 6) rfl rfl rfl rfl rfl ⟨Nat.le_of_ble_eq_true rfl, rfl⟩ (fun _ _ => rfl)
theorem zs_193_9 : zrun zP sv C 193 9 [l0, l1] [.int x] h = some (.inl (some (.int x)), h) := zx_end rfl rfl
theorem zs_194_0 : zrun zP sv C 194 0 [.val (.ref a), l1, l2, l3] st h = zrun zP sv C 194 1 [.val (.ref a), l1, l2, l3] (.ref a :: st) h := zx_go rfl rfl
theorem zs_194_1 : zrun zP sv C 194 1 [l0, .val (.int x), l2, l3] st h = zrun zP sv C 194 2 [l0, .val (.int x), l2, l3] (.int x :: st) h := zx_go rfl rfl
theorem zs_194_2 : zrun zP sv C 194 2 [l0, l1, l2, l3] st h = zrun zP sv C 194 3 [l0, l1, l2, l3] (.int 0 :: st) h := zx_go rfl rfl
theorem zs_194_3 : zrun zP sv C 194 3 [l0, l1, .val (.int x), l3] st h = zrun zP sv C 194 4 [l0, l1, .val (.int x), l3] (.int x :: st) h := zx_go rfl rfl
theorem zs_194_4 : zrun zP sv C 194 4 [l0, l1, l2, .val (.int x)] st h = zrun zP sv C 194 5 [l0, l1, l2, .val (.int x)] (.int x :: st) h := zx_go rfl rfl
theorem zs_194_5 : zrun zP sv C 194 5 [l0, l1, l2, l3] [v4, v3, v2, v1, .ref b] h = zrc (h.1 b) 6 (zbk (C 191 [.ref b, v1, v2, v3, v4] h) (fun v h' => zrun zP sv C 194 8 [l0, l1, l2, l3] (v.toList ++ []) h') (fun E h' => some (.inr E, h'))) := zx_cv (x0 := 6) rfl rfl rfl rfl rfl ⟨Nat.le_of_ble_eq_true rfl, rfl⟩ (fun _ _ => rfl)
theorem zs_194_8 : zrun zP sv C 194 8 [l0, l1, l2, l3] [.int x] h = some (.inl (some (.int x)), h) := zx_end rfl rfl
theorem zs_195_0 : zrun zP sv C 195 0 [.val (.ref a), l1, l2] st h = zrun zP sv C 195 1 [.val (.ref a), l1, l2] (.ref a :: st) h := zx_go rfl rfl
theorem zs_195_1 : zrun zP sv C 195 1 [l0, l1, l2] [.ref b] h = zrc (h.1 b) 6 (zbk (C 190 [.ref b] h) (fun v h' => zrun zP sv C 195 4 [l0, l1, l2] (v.toList ++ []) h') (fun E h' => some (.inr E, h'))) := zx_cv (x0 := 6) rfl rfl rfl rfl rfl ⟨Nat.le_of_ble_eq_true rfl, rfl⟩ (fun _ _ => rfl)
theorem zs_195_4 : zrun zP sv C 195 4 [l0, l1, l2] st h = zrun zP sv C 195 5 [l0, l1, l2] (.int 0 :: st) h := zx_go rfl rfl
theorem zs_195_5 (hs : znw l2 = true) : zrun zP sv C 195 5 [l0, l1, l2] (.int x :: st) h = zrun zP sv C 195 6 [l0, l1, .val (.int x)] st h := zx_st hs rfl rfl rfl rfl rfl rfl
theorem zs_195_6 : zrun zP sv C 195 6 [l0, l1, .val (.int x)] st h = zrun zP sv C 195 7 [l0, l1, .val (.int x)] (.int x :: st) h := zx_go rfl rfl
theorem zs_195_7 : zrun zP sv C 195 7 [l0, .val (.ref a), l2] st h = zrun zP sv C 195 8 [l0, .val (.ref a), l2] (.ref a :: st) h := zx_go rfl rfl
theorem zs_195_8 : zrun zP sv C 195 8 [l0, l1, l2] [.ref b, r0] h = zrc (h.1 b) 6 (zbk (C 182 [.ref b] h) (fun v h' => zrun zP sv C 195 11 [l0, l1, l2] (v.toList ++ [r0]) h') (fun E h' => some (.inr E, h'))) := zx_cv (x0 := 6) rfl rfl rfl rfl rfl ⟨Nat.le_of_ble_eq_true rfl, rfl⟩ (fun _ _ => rfl)
theorem zs_195_11 : zrun zP sv C 195 11 [l0, l1, l2] (.int y :: .int x :: st) h = if x < y then zrun zP sv C 195 14 [l0, l1, l2] st h else zrun zP sv C 195 45 [l0, l1, l2] st h := (zx_ic rfl rfl).trans zc3_if
theorem zs_195_14 : zrun zP sv C 195 14 [.val (.ref a), l1, l2] st h = zrun zP sv C 195 15 [.val (.ref a), l1, l2] (.ref a :: st) h := zx_go rfl rfl
theorem zs_195_15 : zrun zP sv C 195 15 [l0, .val (.ref a), l2] st h = zrun zP sv C 195 16 [l0, .val (.ref a), l2] (.ref a :: st) h := zx_go rfl rfl
theorem zs_195_16 : zrun zP sv C 195 16 [l0, l1, .val (.int x)] st h = zrun zP sv C 195 17 [l0, l1, .val (.int x)] (.int x :: st) h := zx_go rfl rfl
theorem zs_195_17 : zrun zP sv C 195 17 [l0, l1, l2] [v1, .ref b, r0] h = zrc (h.1 b) 6 (zbk (C 184 [.ref b, v1] h) (fun v h' => zrun zP sv C 195 20 [l0, l1, l2] (v.toList ++ [r0]) h') (fun E h' => some (.inr E, h'))) := zx_cv (x0 := 6) rfl rfl rfl rfl rfl ⟨Nat.le_of_ble_eq_true rfl, rfl⟩ (fun _ _ => rfl)
theorem zs_195_20 : zrun zP sv C 195 20 [l0, .val (.ref a), l2] st h = zrun zP sv C 195 21 [l0, .val (.ref a), l2] (.ref a :: st) h := zx_go rfl rfl
theorem zs_195_21 : zrun zP sv C 195 21 [l0, l1, .val (.int x)] st h = zrun zP sv C 195 22 [l0, l1, .val (.int x)] (.int x :: st) h := zx_go rfl rfl
theorem zs_195_22 : zrun zP sv C 195 22 [l0, l1, l2] [v1, .ref b, r0, r1] h = zrc (h.1 b) 6 (zbk (C 185 [.ref b, v1] h) (fun v h' => zrun zP sv C 195 25 [l0, l1, l2] (v.toList ++ [r0, r1]) h') (fun E h' => some (.inr E, h'))) := zx_cv (x0 := 6) rfl rfl rfl rfl rfl ⟨Nat.le_of_ble_eq_true rfl, rfl⟩ (fun _ _ => rfl)
theorem zs_195_25 : zrun zP sv C 195 25 [l0, .val (.ref a), l2] st h = zrun zP sv C 195 26 [l0, .val (.ref a), l2] (.ref a :: st) h := zx_go rfl rfl
theorem zs_195_26 : zrun zP sv C 195 26 [l0, l1, .val (.int x)] st h = zrun zP sv C 195 27 [l0, l1, .val (.int x)] (.int x :: st) h := zx_go rfl rfl
theorem zs_195_27 : zrun zP sv C 195 27 [l0, l1, l2] [v1, .ref b, r0, r1, r2] h = zrc (h.1 b) 6 (zbk (C 186 [.ref b, v1] h) (fun v h' => zrun zP sv C 195 30 [l0, l1, l2] (v.toList ++ [r0, r1, r2]) h') (fun E h' => some (.inr E, h'))) := zx_cv (x0 := 6) rfl rfl rfl rfl rfl ⟨Nat.le_of_ble_eq_true rfl, rfl⟩ (fun _ _ => rfl)
theorem zs_195_30 : zrun zP sv C 195 30 [l0, .val (.ref a), l2] st h = zrun zP sv C 195 31 [l0, .val (.ref a), l2] (.ref a :: st) h := zx_go rfl rfl
theorem zs_195_31 : zrun zP sv C 195 31 [l0, l1, .val (.int x)] st h = zrun zP sv C 195 32 [l0, l1, .val (.int x)] (.int x :: st) h := zx_go rfl rfl
theorem zs_195_32 : zrun zP sv C 195 32 [l0, l1, l2] [v1, .ref b, r0, r1, r2, r3] h = zrc (h.1 b) 6 (zbk (C 187 [.ref b, v1] h) (fun v h' => zrun zP sv C 195 35 [l0, l1, l2] (v.toList ++ [r0, r1, r2, r3]) h') (fun E h' => some (.inr E, h'))) := zx_cv (x0 := 6) rfl rfl rfl rfl rfl ⟨Nat.le_of_ble_eq_true rfl, rfl⟩ (fun _ _ => rfl)
theorem zs_195_35 : zrun zP sv C 195 35 [l0, l1, l2] [v4, v3, v2, v1, .ref b] h = zrc (h.1 b) 6 (zbk (C 191 [.ref b, v1, v2, v3, v4] h) (fun v h' => zrun zP sv C 195 38 [l0, l1, l2] (v.toList ++ []) h') (fun E h' => some (.inr E, h'))) := zx_cv (x0 := 6) rfl rfl rfl rfl rfl ⟨Nat.le_of_ble_eq_true rfl, rfl⟩ (fun _ _ => rfl)
theorem zs_195_38 : zrun zP sv C 195 38 [l0, l1, l2] (.int x :: st) h = zrun zP sv C 195 39 [l0, l1, l2] st h := zx_go rfl rfl
theorem zs_195_39 : zrun zP sv C 195 39 [l0, l1, .val (.int x)] st h = zrun zP sv C 195 42 [l0, l1, .val (.int (x + (nI 1)))] st h := zx_ii rfl rfl rfl rfl rfl
theorem zs_195_42 : zrun zP sv C 195 42 [l0, l1, l2] st h = zrun zP sv C 195 6 [l0, l1, l2] st h := zx_go rfl rfl
theorem zs_195_45 : zrun zP sv C 195 45 [l0, l1, l2] [] h = some (.inl none, h) := zx_end rfl rfl
theorem zw_0_42 : zswp (zP.2.2.2.1 0) 59 (nI 42) = 55 := by decide +kernel
theorem zw_0_43 : zswp (zP.2.2.2.1 0) 59 (nI 43) = 47 := by decide +kernel
theorem zw_0_45 : zswp (zP.2.2.2.1 0) 59 (nI 45) = 51 := by decide +kernel
theorem zw_0_110 : zswp (zP.2.2.2.1 0) 59 (nI 110) = 44 := by decide +kernel
end ZSTEPS
