/-! Steps, one an instruction. Printed by wip/gen/steps.py. -/
section ZSTEPS
variable {sv : Nat → Value} {C : zCall} {h : zH} {st : List Value} {x y z : Int32} {xl yl : Int64} {xf xg : UInt32} {xd xe : UInt64} {a b c : Nat} {w0 w1 w2 w3 w4 w5 w6 w7 w8 : Int32} {q0 q1 q2 q3 q4 q5 q6 q7 q8 : Nat} {v0 v1 v2 v3 v4 v5 v6 r0 r1 r2 r3 r4 r5 : Value} {l0 l1 l2 l3 l4 l5 l6 l7 l8 l9 l10 l11 : Slot}
theorem zs_196_0 : zrun zP sv C 196 0 [.val (.ref a)] st h = zrun zP sv C 196 1 [.val (.ref a)] (.ref a :: st) h := zx_go rfl rfl
theorem zs_196_0n : zrun zP sv C 196 0 [.val .null] st h = zrun zP sv C 196 1 [.val .null] (.null :: st) h := zx_go rfl rfl
theorem zs_196_1 : zrun zP sv C 196 1 [l0] (.ref a :: st) h = zfld (h.1 a) 13 0 (fun v => zrun zP sv C 196 4 [l0] (v :: st) h) := zx_getf rfl rfl
theorem zs_196_4 : zrun zP sv C 196 4 [l0] (.ref a :: st) h = zaln (h.1 a) (fun v => zrun zP sv C 196 5 [l0] (.int v :: st) h) := zx_aln rfl rfl
theorem zs_196_5 : zrun zP sv C 196 5 [.val (.ref a)] st h = zrun zP sv C 196 6 [.val (.ref a)] (.ref a :: st) h := zx_go rfl rfl
theorem zs_196_5n : zrun zP sv C 196 5 [.val .null] st h = zrun zP sv C 196 6 [.val .null] (.null :: st) h := zx_go rfl rfl
theorem zs_196_6 : zrun zP sv C 196 6 [l0] [.ref b, r0] h = zrc (h.1 b) 13 (zbk (C 197 [.ref b] h) (fun v h' => zrun zP sv C 196 9 [l0] (v.toList ++ [r0]) h') (fun E h' => some (.inr E, h'))) := zx_cv (x0 := 13) rfl rfl rfl rfl rfl ⟨Nat.le_of_ble_eq_true rfl, rfl⟩ (fun _ _ => rfl)
theorem zs_196_9 : zrun zP sv C 196 9 [l0] (.int y :: .int x :: st) h = zrun zP sv C 196 10 [l0] (.int (x >>> (y &&& 31)) :: st) h := zx_go rfl rfl
theorem zs_196_10 : zrun zP sv C 196 10 [l0] [.int x] h = some (.inl (some (.int x)), h) := zx_end rfl rfl
theorem zs_197_0 : zrun zP sv C 197 0 [l0] st h = zrun zP sv C 197 3 [l0] (sv 0 :: st) h := zx_go rfl rfl
theorem zs_197_3 : zrun zP sv C 197 3 [l0] (.int x :: st) h = if x = 0 then zrun zP sv C 197 13 [l0] st h else zrun zP sv C 197 6 [l0] st h := (zx_if rfl rfl).trans zc0_if
theorem zs_197_6 : zrun zP sv C 197 6 [.val (.ref a)] st h = zrun zP sv C 197 7 [.val (.ref a)] (.ref a :: st) h := zx_go rfl rfl
theorem zs_197_6n : zrun zP sv C 197 6 [.val .null] st h = zrun zP sv C 197 7 [.val .null] (.null :: st) h := zx_go rfl rfl
theorem zs_197_7 : zrun zP sv C 197 7 [l0] (.ref a :: st) h = zfld (h.1 a) 13 1 (fun v => zrun zP sv C 197 10 [l0] (v :: st) h) := zx_getf rfl rfl
theorem zs_197_10 : zrun zP sv C 197 10 [l0] st h = zrun zP sv C 197 14 [l0] st h := zx_go rfl rfl
theorem zs_197_13 : zrun zP sv C 197 13 [l0] st h = zrun zP sv C 197 14 [l0] (.int (nI 1) :: st) h := zx_go rfl rfl
theorem zs_197_14 : zrun zP sv C 197 14 [l0] [.int x] h = zgd (zty 6 (.int x)) (some (.inl (some (.int x)), h)) := zx_rt rfl
theorem zs_198_0 : zrun zP sv C 198 0 [l0] st h = zrun zP sv C 198 3 [l0] (sv 0 :: st) h := zx_go rfl rfl
theorem zs_198_3 : zrun zP sv C 198 3 [l0] (.int x :: st) h = if x = 0 then zrun zP sv C 198 17 [l0] st h else zrun zP sv C 198 6 [l0] st h := (zx_if rfl rfl).trans zc0_if
theorem zs_198_6 : zrun zP sv C 198 6 [.val (.ref a)] st h = zrun zP sv C 198 7 [.val (.ref a)] (.ref a :: st) h := zx_go rfl rfl
theorem zs_198_6n : zrun zP sv C 198 6 [.val .null] st h = zrun zP sv C 198 7 [.val .null] (.null :: st) h := zx_go rfl rfl
theorem zs_198_7 : zrun zP sv C 198 7 [l0] (.ref a :: st) h = zfld (h.1 a) 13 1 (fun v => zrun zP sv C 198 10 [l0] (v :: st) h) := zx_getf rfl rfl
theorem zs_198_10 : zrun zP sv C 198 10 [l0] (.int x :: st) h = if x = 0 then zrun zP sv C 198 13 [l0] st h else zrun zP sv C 198 17 [l0] st h := (zx_if rfl rfl).trans zc1_if
theorem zs_198_13 : zrun zP sv C 198 13 [l0] st h = zrun zP sv C 198 14 [l0] (.int (nI 1) :: st) h := zx_go rfl rfl
theorem zs_198_14 : zrun zP sv C 198 14 [l0] st h = zrun zP sv C 198 18 [l0] st h := zx_go rfl rfl
theorem zs_198_17 : zrun zP sv C 198 17 [l0] st h = zrun zP sv C 198 18 [l0] (.int 0 :: st) h := zx_go rfl rfl
theorem zs_198_18 : zrun zP sv C 198 18 [l0] [.int x] h = zgd (zty 5 (.int x)) (some (.inl (some (.int x)), h)) := zx_rt rfl
theorem zs_199_0 : zrun zP sv C 199 0 [.val (.ref a), l1] st h = zrun zP sv C 199 1 [.val (.ref a), l1] (.ref a :: st) h := zx_go rfl rfl
theorem zs_199_0n : zrun zP sv C 199 0 [.val .null, l1] st h = zrun zP sv C 199 1 [.val .null, l1] (.null :: st) h := zx_go rfl rfl
theorem zs_199_1 : zrun zP sv C 199 1 [l0, l1] [.ref b] h = zrc (h.1 b) 13 (zbk (C 198 [.ref b] h) (fun v h' => zrun zP sv C 199 4 [l0, l1] (v.toList ++ []) h') (fun E h' => some (.inr E, h'))) := zx_cv (x0 := 13) rfl rfl rfl rfl rfl ⟨Nat.le_of_ble_eq_true rfl, rfl⟩ (fun _ _ => rfl)
theorem zs_199_4 : zrun zP sv C 199 4 [l0, l1] (.int x :: st) h = if x = 0 then zrun zP sv C 199 16 [l0, l1] st h else zrun zP sv C 199 7 [l0, l1] st h := (zx_if rfl rfl).trans zc0_if
theorem zs_199_7 : zrun zP sv C 199 7 [.val (.ref a), l1] st h = zrun zP sv C 199 8 [.val (.ref a), l1] (.ref a :: st) h := zx_go rfl rfl
theorem zs_199_7n : zrun zP sv C 199 7 [.val .null, l1] st h = zrun zP sv C 199 8 [.val .null, l1] (.null :: st) h := zx_go rfl rfl
theorem zs_199_8 : zrun zP sv C 199 8 [l0, l1] (.ref a :: st) h = zfld (h.1 a) 13 0 (fun v => zrun zP sv C 199 11 [l0, l1] (v :: st) h) := zx_getf rfl rfl
theorem zs_199_11 : zrun zP sv C 199 11 [l0, .val (.int x)] st h = zrun zP sv C 199 12 [l0, .val (.int x)] (.int x :: st) h := zx_go rfl rfl
theorem zs_199_12 : zrun zP sv C 199 12 [l0, l1] [v1, v0] h = zbk (C 200 [v0, v1] h) (fun v h' => zrun zP sv C 199 15 [l0, l1] (v.toList ++ []) h') (fun E h' => some (.inr E, h')) := zx_cs rfl rfl rfl rfl ⟨Nat.le_of_ble_eq_true rfl, rfl⟩ (fun _ _ => rfl)
theorem zs_199_15 : zrun zP sv C 199 15 [l0, l1] [.int x] h = zgd (zty 7 (.int x)) (some (.inl (some (.int x)), h)) := zx_rt rfl
theorem zs_199_16 : zrun zP sv C 199 16 [.val (.ref a), l1] st h = zrun zP sv C 199 17 [.val (.ref a), l1] (.ref a :: st) h := zx_go rfl rfl
theorem zs_199_16n : zrun zP sv C 199 16 [.val .null, l1] st h = zrun zP sv C 199 17 [.val .null, l1] (.null :: st) h := zx_go rfl rfl
theorem zs_199_17 : zrun zP sv C 199 17 [l0, l1] (.ref a :: st) h = zfld (h.1 a) 13 0 (fun v => zrun zP sv C 199 20 [l0, l1] (v :: st) h) := zx_getf rfl rfl
theorem zs_199_20 : zrun zP sv C 199 20 [l0, .val (.int x)] st h = zrun zP sv C 199 21 [l0, .val (.int x)] (.int x :: st) h := zx_go rfl rfl
theorem zs_200_0 : zrun zP sv C 200 0 [l0, .val (.int x)] st h = zrun zP sv C 200 1 [l0, .val (.int x)] (.int x :: st) h := zx_go rfl rfl
theorem zs_200_1 : zrun zP sv C 200 1 [.val (.ref a), l1] st h = zrun zP sv C 200 2 [.val (.ref a), l1] (.ref a :: st) h := zx_go rfl rfl
theorem zs_200_1n : zrun zP sv C 200 1 [.val .null, l1] st h = zrun zP sv C 200 2 [.val .null, l1] (.null :: st) h := zx_go rfl rfl
theorem zs_200_2 : zrun zP sv C 200 2 [l0, l1] (.ref a :: st) h = zaln (h.1 a) (fun v => zrun zP sv C 200 3 [l0, l1] (.int v :: st) h) := zx_aln rfl rfl
theorem zs_200_3 : zrun zP sv C 200 3 [l0, l1] [v1, v0] h = zbk (C 18 [v0, v1] h) (fun v h' => zrun zP sv C 200 6 [l0, l1] (v.toList ++ []) h') (fun E h' => some (.inr E, h')) := zx_cs rfl rfl rfl rfl ⟨Nat.le_of_ble_eq_true rfl, rfl⟩ (fun _ _ => rfl)
theorem zs_200_6 : zrun zP sv C 200 6 [.val (.ref a), l1] st h = zrun zP sv C 200 7 [.val (.ref a), l1] (.ref a :: st) h := zx_go rfl rfl
theorem zs_200_6n : zrun zP sv C 200 6 [.val .null, l1] st h = zrun zP sv C 200 7 [.val .null, l1] (.null :: st) h := zx_go rfl rfl
theorem zs_200_7 : zrun zP sv C 200 7 [l0, .val (.int x)] st h = zrun zP sv C 200 8 [l0, .val (.int x)] (.int x :: st) h := zx_go rfl rfl
theorem zs_200_8 : zrun zP sv C 200 8 [l0, l1] (.int x :: .ref a :: st) h = zael (h.1 a) 24 x (fun v => zrun zP sv C 200 9 [l0, l1] (v :: st) h) := zx_ald rfl rfl
theorem zs_200_9 : zrun zP sv C 200 9 [l0, l1] st h = zrun zP sv C 200 12 [l0, l1] (.int (nI 255) :: st) h := zx_go rfl rfl
theorem zs_200_12 : zrun zP sv C 200 12 [l0, l1] (.int y :: .int x :: st) h = zrun zP sv C 200 13 [l0, l1] (.int (x &&& y) :: st) h := zx_go rfl rfl
theorem zs_200_13 : zrun zP sv C 200 13 [l0, l1] (.int x :: st) h = zrun zP sv C 200 14 [l0, l1] (.int (x.toUInt32 % 65536).toInt32 :: st) h := zx_go rfl rfl
theorem zs_200_14 : zrun zP sv C 200 14 [l0, l1] [.int x] h = zgd (zty 7 (.int x)) (some (.inl (some (.int x)), h)) := zx_rt rfl
theorem zs_201_0 : zrun zP sv C 201 0 [.val (.ref a), l1] st h = zrun zP sv C 201 1 [.val (.ref a), l1] (.ref a :: st) h := zx_go rfl rfl
theorem zs_201_0n : zrun zP sv C 201 0 [.val .null, l1] st h = zrun zP sv C 201 1 [.val .null, l1] (.null :: st) h := zx_go rfl rfl
theorem zs_201_1 : zrun zP sv C 201 1 [l0, .val (.ref a)] st h = zrun zP sv C 201 2 [l0, .val (.ref a)] (.ref a :: st) h := zx_go rfl rfl
theorem zs_201_1n : zrun zP sv C 201 1 [l0, .val .null] st h = zrun zP sv C 201 2 [l0, .val .null] (.null :: st) h := zx_go rfl rfl
theorem zs_201_2 : zrun zP sv C 201 2 [l0, l1] [v1, .ref b] h = zrc (h.1 b) 2 (zbk (C 202 [.ref b, v1] h) (fun v h' => zrun zP sv C 201 5 [l0, l1] (v.toList ++ []) h') (fun E h' => some (.inr E, h'))) := zx_cv (x0 := 2) rfl rfl rfl rfl rfl ⟨Nat.le_of_ble_eq_true rfl, rfl⟩ (fun _ _ => rfl)
theorem zs_201_5 : zrun zP sv C 201 5 [l0, l1] (.ref a :: st) h = zrun zP sv C 201 6 [l0, l1] st h := zx_go rfl rfl
theorem zs_201_5n : zrun zP sv C 201 5 [l0, l1] (.null :: st) h = zrun zP sv C 201 6 [l0, l1] st h := zx_go rfl rfl
theorem zs_201_6 : zrun zP sv C 201 6 [.val (.ref a), l1] st h = zrun zP sv C 201 7 [.val (.ref a), l1] (.ref a :: st) h := zx_go rfl rfl
theorem zs_201_6n : zrun zP sv C 201 6 [.val .null, l1] st h = zrun zP sv C 201 7 [.val .null, l1] (.null :: st) h := zx_go rfl rfl
theorem zs_201_7 : zrun zP sv C 201 7 [l0, l1] [.ref a] h = some (.inl (some (.ref a)), h) := zx_end rfl rfl
theorem zs_201_7n : zrun zP sv C 201 7 [l0, l1] [.null] h = some (.inl (some (.null)), h) := zx_end rfl rfl
theorem zs_202_0 : zrun zP sv C 202 0 [l0, .val (.ref a), l2] st h = zrun zP sv C 202 1 [l0, .val (.ref a), l2] (.ref a :: st) h := zx_go rfl rfl
theorem zs_202_0n : zrun zP sv C 202 0 [l0, .val .null, l2] st h = zrun zP sv C 202 1 [l0, .val .null, l2] (.null :: st) h := zx_go rfl rfl
theorem zs_202_1 : zrun zP sv C 202 1 [l0, l1, l2] (.ref a :: st) h = zrun zP sv C 202 9 [l0, l1, l2] st h := zx_go rfl rfl
theorem zs_202_1n : zrun zP sv C 202 1 [l0, l1, l2] (.null :: st) h = zrun zP sv C 202 4 [l0, l1, l2] st h := zx_go rfl rfl
theorem zs_202_4 : zrun zP sv C 202 4 [.val (.ref a), l1, l2] st h = zrun zP sv C 202 5 [.val (.ref a), l1, l2] (.ref a :: st) h := zx_go rfl rfl
theorem zs_202_4n : zrun zP sv C 202 4 [.val .null, l1, l2] st h = zrun zP sv C 202 5 [.val .null, l1, l2] (.null :: st) h := zx_go rfl rfl
theorem zs_202_9 : zrun zP sv C 202 9 [l0, .val (.ref a), l2] st h = zrun zP sv C 202 10 [l0, .val (.ref a), l2] (.ref a :: st) h := zx_go rfl rfl
theorem zs_202_9n : zrun zP sv C 202 9 [l0, .val .null, l2] st h = zrun zP sv C 202 10 [l0, .val .null, l2] (.null :: st) h := zx_go rfl rfl
theorem zs_202_10 : zrun zP sv C 202 10 [l0, l1, l2] [.ref b] h = zrc (h.1 b) 13 (zbk (C 196 [.ref b] h) (fun v h' => zrun zP sv C 202 13 [l0, l1, l2] (v.toList ++ []) h') (fun E h' => some (.inr E, h'))) := zx_cv (x0 := 13) rfl rfl rfl rfl rfl ⟨Nat.le_of_ble_eq_true rfl, rfl⟩ (fun _ _ => rfl)
theorem zs_202_13 (hs : znw l2 = true) : zrun zP sv C 202 13 [l0, l1, l2] (.int x :: st) h = zrun zP sv C 202 14 [l0, l1, .val (.int x)] st h := zx_st hs rfl rfl rfl rfl rfl rfl
theorem zs_202_14 : zrun zP sv C 202 14 [.val (.ref a), l1, l2] st h = zrun zP sv C 202 15 [.val (.ref a), l1, l2] (.ref a :: st) h := zx_go rfl rfl
theorem zs_202_14n : zrun zP sv C 202 14 [.val .null, l1, l2] st h = zrun zP sv C 202 15 [.val .null, l1, l2] (.null :: st) h := zx_go rfl rfl
theorem zs_202_15 : zrun zP sv C 202 15 [.val (.ref a), l1, l2] st h = zrun zP sv C 202 16 [.val (.ref a), l1, l2] (.ref a :: st) h := zx_go rfl rfl
theorem zs_202_15n : zrun zP sv C 202 15 [.val .null, l1, l2] st h = zrun zP sv C 202 16 [.val .null, l1, l2] (.null :: st) h := zx_go rfl rfl
theorem zs_202_16 : zrun zP sv C 202 16 [l0, l1, l2] (.ref a :: st) h = zfld (h.1 a) 2 3 (fun v => zrun zP sv C 202 19 [l0, l1, l2] (v :: st) h) := zx_getf rfl rfl
theorem zs_202_19 : zrun zP sv C 202 19 [l0, l1, .val (.int x)] st h = zrun zP sv C 202 20 [l0, l1, .val (.int x)] (.int x :: st) h := zx_go rfl rfl
theorem zs_202_20 : zrun zP sv C 202 20 [l0, l1, l2] (.int y :: .int x :: st) h = zrun zP sv C 202 21 [l0, l1, l2] (.int (x + y) :: st) h := zx_go rfl rfl
theorem zs_202_21 : zrun zP sv C 202 21 [l0, l1, l2] [v1, .ref b] h = zrc (h.1 b) 2 (zbk (C 4 [.ref b, v1] h) (fun v h' => zrun zP sv C 202 24 [l0, l1, l2] (v.toList ++ []) h') (fun E h' => some (.inr E, h'))) := zx_cv (x0 := 2) rfl rfl rfl rfl rfl ⟨Nat.le_of_ble_eq_true rfl, rfl⟩ (fun _ _ => rfl)
theorem zs_202_24 : zrun zP sv C 202 24 [.val (.ref a), l1, l2] st h = zrun zP sv C 202 25 [.val (.ref a), l1, l2] (.ref a :: st) h := zx_go rfl rfl
theorem zs_202_24n : zrun zP sv C 202 24 [.val .null, l1, l2] st h = zrun zP sv C 202 25 [.val .null, l1, l2] (.null :: st) h := zx_go rfl rfl
theorem zs_202_25 : zrun zP sv C 202 25 [.val (.ref a), l1, l2] st h = zrun zP sv C 202 26 [.val (.ref a), l1, l2] (.ref a :: st) h := zx_go rfl rfl
theorem zs_202_25n : zrun zP sv C 202 25 [.val .null, l1, l2] st h = zrun zP sv C 202 26 [.val .null, l1, l2] (.null :: st) h := zx_go rfl rfl
theorem zs_202_26 : zrun zP sv C 202 26 [l0, l1, l2] (.ref a :: st) h = zfld (h.1 a) 2 3 (fun v => zrun zP sv C 202 29 [l0, l1, l2] (v :: st) h) := zx_getf rfl rfl
theorem zs_202_29 : zrun zP sv C 202 29 [l0, .val (.ref a), l2] st h = zrun zP sv C 202 30 [l0, .val (.ref a), l2] (.ref a :: st) h := zx_go rfl rfl
theorem zs_202_29n : zrun zP sv C 202 29 [l0, .val .null, l2] st h = zrun zP sv C 202 30 [l0, .val .null, l2] (.null :: st) h := zx_go rfl rfl
theorem zs_202_30 : zrun zP sv C 202 30 [l0, l1, l2] [v2, v1, .ref b] h = zrc (h.1 b) 2 (zbk (C 203 [.ref b, v1, v2] h) (fun v h' => zrun zP sv C 202 33 [l0, l1, l2] (v.toList ++ []) h') (fun E h' => some (.inr E, h'))) := zx_cv (x0 := 2) rfl rfl rfl rfl rfl ⟨Nat.le_of_ble_eq_true rfl, rfl⟩ (fun _ _ => rfl)
theorem zs_202_33 : zrun zP sv C 202 33 [.val (.ref a), l1, l2] st h = zrun zP sv C 202 34 [.val (.ref a), l1, l2] (.ref a :: st) h := zx_go rfl rfl
theorem zs_202_33n : zrun zP sv C 202 33 [.val .null, l1, l2] st h = zrun zP sv C 202 34 [.val .null, l1, l2] (.null :: st) h := zx_go rfl rfl
theorem zs_202_34 : zrun zP sv C 202 34 [l0, l1, l2] (.ref a :: st) h = zrun zP sv C 202 35 [l0, l1, l2] (.ref a :: .ref a :: st) h := zx_go rfl rfl
theorem zs_202_35 : zrun zP sv C 202 35 [l0, l1, l2] (.ref a :: st) h = zfld (h.1 a) 2 3 (fun v => zrun zP sv C 202 38 [l0, l1, l2] (v :: st) h) := zx_getf rfl rfl
theorem zs_202_38 : zrun zP sv C 202 38 [l0, l1, .val (.int x)] st h = zrun zP sv C 202 39 [l0, l1, .val (.int x)] (.int x :: st) h := zx_go rfl rfl
theorem zs_202_39 : zrun zP sv C 202 39 [l0, l1, l2] (.int y :: .int x :: st) h = zrun zP sv C 202 40 [l0, l1, l2] (.int (x + y) :: st) h := zx_go rfl rfl
theorem zs_202_40 : zrun zP sv C 202 40 [l0, l1, l2] (.int x :: .ref a :: st) h = zpfd (h.1 a) 2 3 0 (.int x) (fun c => zrun zP sv C 202 43 [l0, l1, l2] st (zup h a c)) := zx_putf (x0 := 0) rfl rfl
theorem zs_202_43 : zrun zP sv C 202 43 [.val (.ref a), l1, l2] st h = zrun zP sv C 202 44 [.val (.ref a), l1, l2] (.ref a :: st) h := zx_go rfl rfl
theorem zs_202_43n : zrun zP sv C 202 43 [.val .null, l1, l2] st h = zrun zP sv C 202 44 [.val .null, l1, l2] (.null :: st) h := zx_go rfl rfl
theorem zs_202_44 : zrun zP sv C 202 44 [l0, l1, l2] [.ref a] h = some (.inl (some (.ref a)), h) := zx_end rfl rfl
theorem zs_202_44n : zrun zP sv C 202 44 [l0, l1, l2] [.null] h = some (.inl (some (.null)), h) := zx_end rfl rfl
theorem zs_203_0 : zrun zP sv C 203 0 [.val (.ref a), l1, l2] st h = zrun zP sv C 203 1 [.val (.ref a), l1, l2] (.ref a :: st) h := zx_go rfl rfl
theorem zs_203_0n : zrun zP sv C 203 0 [.val .null, l1, l2] st h = zrun zP sv C 203 1 [.val .null, l1, l2] (.null :: st) h := zx_go rfl rfl
theorem zs_203_1 : zrun zP sv C 203 1 [l0, l1, .val (.ref a)] st h = zrun zP sv C 203 2 [l0, l1, .val (.ref a)] (.ref a :: st) h := zx_go rfl rfl
theorem zs_203_1n : zrun zP sv C 203 1 [l0, l1, .val .null] st h = zrun zP sv C 203 2 [l0, l1, .val .null] (.null :: st) h := zx_go rfl rfl
theorem zs_203_2 : zrun zP sv C 203 2 [l0, l1, l2] [v1, .ref b] h = zrc (h.1 b) 2 (zbk (C 204 [.ref b, v1] h) (fun v h' => zrun zP sv C 203 5 [l0, l1, l2] (v.toList ++ []) h') (fun E h' => some (.inr E, h'))) := zx_cv (x0 := 2) rfl rfl rfl rfl rfl ⟨Nat.le_of_ble_eq_true rfl, rfl⟩ (fun _ _ => rfl)
theorem zs_203_5 : zrun zP sv C 203 5 [l0, l1, .val (.ref a)] st h = zrun zP sv C 203 6 [l0, l1, .val (.ref a)] (.ref a :: st) h := zx_go rfl rfl
theorem zs_203_5n : zrun zP sv C 203 5 [l0, l1, .val .null] st h = zrun zP sv C 203 6 [l0, l1, .val .null] (.null :: st) h := zx_go rfl rfl
theorem zs_203_6 : zrun zP sv C 203 6 [.val (.ref a), l1, l2] st h = zrun zP sv C 203 7 [.val (.ref a), l1, l2] (.ref a :: st) h := zx_go rfl rfl
theorem zs_203_6n : zrun zP sv C 203 6 [.val .null, l1, l2] st h = zrun zP sv C 203 7 [.val .null, l1, l2] (.null :: st) h := zx_go rfl rfl
theorem zs_203_7 : zrun zP sv C 203 7 [l0, l1, l2] (.ref a :: st) h = zfld (h.1 a) 2 0 (fun v => zrun zP sv C 203 10 [l0, l1, l2] (v :: st) h) := zx_getf rfl rfl
theorem zs_203_10 : zrun zP sv C 203 10 [l0, .val (.int x), l2] st h = zrun zP sv C 203 11 [l0, .val (.int x), l2] (.int x :: st) h := zx_go rfl rfl
theorem zs_203_11 : zrun zP sv C 203 11 [.val (.ref a), l1, l2] st h = zrun zP sv C 203 12 [.val (.ref a), l1, l2] (.ref a :: st) h := zx_go rfl rfl
theorem zs_203_11n : zrun zP sv C 203 11 [.val .null, l1, l2] st h = zrun zP sv C 203 12 [.val .null, l1, l2] (.null :: st) h := zx_go rfl rfl
theorem zs_203_12 : zrun zP sv C 203 12 [l0, l1, l2] (.ref a :: st) h = zfld (h.1 a) 2 1 (fun v => zrun zP sv C 203 15 [l0, l1, l2] (v :: st) h) := zx_getf rfl rfl
theorem zs_203_15 : zrun zP sv C 203 15 [l0, l1, l2] [v3, v2, v1, .ref b] h = zrc (h.1 b) 13 (zbk (C 205 [.ref b, v1, v2, v3] h) (fun v h' => zrun zP sv C 203 18 [l0, l1, l2] (v.toList ++ []) h') (fun E h' => some (.inr E, h'))) := zx_cv (x0 := 13) rfl rfl rfl rfl rfl ⟨Nat.le_of_ble_eq_true rfl, rfl⟩ (fun _ _ => rfl)
theorem zs_203_18 : zrun zP sv C 203 18 [l0, l1, l2] [] h = some (.inl none, h) := zx_end rfl rfl
theorem zs_204_0 : zrun zP sv C 204 0 [l0, l1] st h = zrun zP sv C 204 3 [l0, l1] (sv 0 :: st) h := zx_go rfl rfl
theorem zs_204_3 : zrun zP sv C 204 3 [l0, l1] (.int x :: st) h = if x = 0 then zrun zP sv C 204 21 [l0, l1] st h else zrun zP sv C 204 6 [l0, l1] st h := (zx_if rfl rfl).trans zc0_if
theorem zs_204_6 : zrun zP sv C 204 6 [.val (.ref a), l1] st h = zrun zP sv C 204 7 [.val (.ref a), l1] (.ref a :: st) h := zx_go rfl rfl
theorem zs_204_6n : zrun zP sv C 204 6 [.val .null, l1] st h = zrun zP sv C 204 7 [.val .null, l1] (.null :: st) h := zx_go rfl rfl
theorem zs_204_7 : zrun zP sv C 204 7 [l0, l1] (.ref a :: st) h = zfld (h.1 a) 2 1 (fun v => zrun zP sv C 204 10 [l0, l1] (v :: st) h) := zx_getf rfl rfl
theorem zs_204_10 : zrun zP sv C 204 10 [l0, .val (.ref a)] st h = zrun zP sv C 204 11 [l0, .val (.ref a)] (.ref a :: st) h := zx_go rfl rfl
theorem zs_204_10n : zrun zP sv C 204 10 [l0, .val .null] st h = zrun zP sv C 204 11 [l0, .val .null] (.null :: st) h := zx_go rfl rfl
theorem zs_204_11 : zrun zP sv C 204 11 [l0, l1] [.ref b, r0] h = zrc (h.1 b) 13 (zbk (C 197 [.ref b] h) (fun v h' => zrun zP sv C 204 14 [l0, l1] (v.toList ++ [r0]) h') (fun E h' => some (.inr E, h'))) := zx_cv (x0 := 13) rfl rfl rfl rfl rfl ⟨Nat.le_of_ble_eq_true rfl, rfl⟩ (fun _ _ => rfl)
theorem zs_204_14 : zrun zP sv C 204 14 [l0, l1] (.int y :: .int x :: st) h = if x = y then zrun zP sv C 204 21 [l0, l1] st h else zrun zP sv C 204 17 [l0, l1] st h := (zx_ic rfl rfl).trans zc0_if
theorem zs_204_17 : zrun zP sv C 204 17 [.val (.ref a), l1] st h = zrun zP sv C 204 18 [.val (.ref a), l1] (.ref a :: st) h := zx_go rfl rfl
theorem zs_204_17n : zrun zP sv C 204 17 [.val .null, l1] st h = zrun zP sv C 204 18 [.val .null, l1] (.null :: st) h := zx_go rfl rfl
theorem zs_204_21 : zrun zP sv C 204 21 [l0, l1] [] h = some (.inl none, h) := zx_end rfl rfl
theorem zs_205_0 : zrun zP sv C 205 0 [.val (.ref a), l1, l2, l3] st h = zrun zP sv C 205 1 [.val (.ref a), l1, l2, l3] (.ref a :: st) h := zx_go rfl rfl
theorem zs_205_0n : zrun zP sv C 205 0 [.val .null, l1, l2, l3] st h = zrun zP sv C 205 1 [.val .null, l1, l2, l3] (.null :: st) h := zx_go rfl rfl
theorem zs_205_1 : zrun zP sv C 205 1 [l0, l1, l2, l3] [.ref b] h = zrc (h.1 b) 13 (zbk (C 197 [.ref b] h) (fun v h' => zrun zP sv C 205 4 [l0, l1, l2, l3] (v.toList ++ []) h') (fun E h' => some (.inr E, h'))) := zx_cv (x0 := 13) rfl rfl rfl rfl rfl ⟨Nat.le_of_ble_eq_true rfl, rfl⟩ (fun _ _ => rfl)
theorem zs_205_4 : zrun zP sv C 205 4 [l0, l1, l2, .val (.int x)] st h = zrun zP sv C 205 5 [l0, l1, l2, .val (.int x)] (.int x :: st) h := zx_go rfl rfl
theorem zs_205_5 : zrun zP sv C 205 5 [l0, l1, l2, l3] (.int y :: .int x :: st) h = if x = y then zrun zP sv C 205 8 [l0, l1, l2, l3] st h else zrun zP sv C 205 28 [l0, l1, l2, l3] st h := (zx_ic rfl rfl).trans zc1_if
theorem zs_205_8 : zrun zP sv C 205 8 [.val (.ref a), l1, l2, l3] st h = zrun zP sv C 205 9 [.val (.ref a), l1, l2, l3] (.ref a :: st) h := zx_go rfl rfl
theorem zs_205_8n : zrun zP sv C 205 8 [.val .null, l1, l2, l3] st h = zrun zP sv C 205 9 [.val .null, l1, l2, l3] (.null :: st) h := zx_go rfl rfl
theorem zs_205_9 : zrun zP sv C 205 9 [l0, l1, l2, l3] (.ref a :: st) h = zfld (h.1 a) 13 0 (fun v => zrun zP sv C 205 12 [l0, l1, l2, l3] (v :: st) h) := zx_getf rfl rfl
theorem zs_205_12 : zrun zP sv C 205 12 [l0, l1, l2, l3] st h = zrun zP sv C 205 13 [l0, l1, l2, l3] (.int 0 :: st) h := zx_go rfl rfl
theorem zs_205_13 : zrun zP sv C 205 13 [l0, .val (.ref a), l2, l3] st h = zrun zP sv C 205 14 [l0, .val (.ref a), l2, l3] (.ref a :: st) h := zx_go rfl rfl
theorem zs_205_13n : zrun zP sv C 205 13 [l0, .val .null, l2, l3] st h = zrun zP sv C 205 14 [l0, .val .null, l2, l3] (.null :: st) h := zx_go rfl rfl
theorem zs_205_14 : zrun zP sv C 205 14 [l0, l1, .val (.int x), l3] st h = zrun zP sv C 205 15 [l0, l1, .val (.int x), l3] (.int x :: st) h := zx_go rfl rfl
theorem zs_205_15 : zrun zP sv C 205 15 [l0, l1, l2, .val (.int x)] st h = zrun zP sv C 205 16 [l0, l1, l2, .val (.int x)] (.int x :: st) h := zx_go rfl rfl
theorem zs_205_16 : zrun zP sv C 205 16 [l0, l1, l2, l3] (.int y :: .int x :: st) h = zrun zP sv C 205 17 [l0, l1, l2, l3] (.int (x <<< (y &&& 31)) :: st) h := zx_go rfl rfl
theorem zs_205_17 : zrun zP sv C 205 17 [.val (.ref a), l1, l2, l3] st h = zrun zP sv C 205 18 [.val (.ref a), l1, l2, l3] (.ref a :: st) h := zx_go rfl rfl
theorem zs_205_17n : zrun zP sv C 205 17 [.val .null, l1, l2, l3] st h = zrun zP sv C 205 18 [.val .null, l1, l2, l3] (.null :: st) h := zx_go rfl rfl
theorem zs_205_18 : zrun zP sv C 205 18 [l0, l1, l2, l3] (.ref a :: st) h = zfld (h.1 a) 13 0 (fun v => zrun zP sv C 205 21 [l0, l1, l2, l3] (v :: st) h) := zx_getf rfl rfl
theorem zs_205_21 : zrun zP sv C 205 21 [l0, l1, l2, l3] (.ref a :: st) h = zaln (h.1 a) (fun v => zrun zP sv C 205 22 [l0, l1, l2, l3] (.int v :: st) h) := zx_aln rfl rfl
theorem zs_205_22 : zrun zP sv C 205 22 [l0, l1, l2, l3] st h = znx zP sv C 205 22 [l0, l1, l2, l3] h (zcopy 25 [l0, l1, l2, l3] st h) := zx_eq rfl rfl
theorem zs_205_25 : zrun zP sv C 205 25 [l0, l1, l2, l3] st h = zrun zP sv C 205 43 [l0, l1, l2, l3] st h := zx_go rfl rfl
theorem zs_205_28 : zrun zP sv C 205 28 [.val (.ref a), l1, l2, l3] st h = zrun zP sv C 205 29 [.val (.ref a), l1, l2, l3] (.ref a :: st) h := zx_go rfl rfl
theorem zs_205_28n : zrun zP sv C 205 28 [.val .null, l1, l2, l3] st h = zrun zP sv C 205 29 [.val .null, l1, l2, l3] (.null :: st) h := zx_go rfl rfl
theorem zs_205_29 : zrun zP sv C 205 29 [l0, l1, l2, l3] (.ref a :: st) h = zfld (h.1 a) 13 0 (fun v => zrun zP sv C 205 32 [l0, l1, l2, l3] (v :: st) h) := zx_getf rfl rfl
theorem zs_205_32 : zrun zP sv C 205 32 [l0, l1, l2, l3] st h = zrun zP sv C 205 33 [l0, l1, l2, l3] (.int 0 :: st) h := zx_go rfl rfl
theorem zs_205_33 : zrun zP sv C 205 33 [l0, .val (.ref a), l2, l3] st h = zrun zP sv C 205 34 [l0, .val (.ref a), l2, l3] (.ref a :: st) h := zx_go rfl rfl
theorem zs_205_33n : zrun zP sv C 205 33 [l0, .val .null, l2, l3] st h = zrun zP sv C 205 34 [l0, .val .null, l2, l3] (.null :: st) h := zx_go rfl rfl
theorem zs_205_34 : zrun zP sv C 205 34 [l0, l1, .val (.int x), l3] st h = zrun zP sv C 205 35 [l0, l1, .val (.int x), l3] (.int x :: st) h := zx_go rfl rfl
theorem zs_205_35 : zrun zP sv C 205 35 [.val (.ref a), l1, l2, l3] st h = zrun zP sv C 205 36 [.val (.ref a), l1, l2, l3] (.ref a :: st) h := zx_go rfl rfl
theorem zs_205_35n : zrun zP sv C 205 35 [.val .null, l1, l2, l3] st h = zrun zP sv C 205 36 [.val .null, l1, l2, l3] (.null :: st) h := zx_go rfl rfl
theorem zs_205_36 : zrun zP sv C 205 36 [l0, l1, l2, l3] (.ref a :: st) h = zfld (h.1 a) 13 0 (fun v => zrun zP sv C 205 39 [l0, l1, l2, l3] (v :: st) h) := zx_getf rfl rfl
theorem zs_205_39 : zrun zP sv C 205 39 [l0, l1, l2, l3] (.ref a :: st) h = zaln (h.1 a) (fun v => zrun zP sv C 205 40 [l0, l1, l2, l3] (.int v :: st) h) := zx_aln rfl rfl
theorem zs_205_43 : zrun zP sv C 205 43 [l0, l1, l2, l3] [] h = some (.inl none, h) := zx_end rfl rfl
theorem zs_206_0 : zrun zP sv C 206 0 [l0] st h = zrun zP sv C 206 3 [l0] (.ref h.2.1 :: st) (znew h (13, [.null, .int 0, .int 0, .int 0]) 4) := zx_go rfl rfl
theorem zs_206_3 : zrun zP sv C 206 3 [l0] (.ref a :: st) h = zrun zP sv C 206 4 [l0] (.ref a :: .ref a :: st) h := zx_go rfl rfl
theorem zs_206_4 : zrun zP sv C 206 4 [.val (.ref a)] st h = zrun zP sv C 206 5 [.val (.ref a)] (.ref a :: st) h := zx_go rfl rfl
theorem zs_206_4n : zrun zP sv C 206 4 [.val .null] st h = zrun zP sv C 206 5 [.val .null] (.null :: st) h := zx_go rfl rfl
theorem zs_206_5 : zrun zP sv C 206 5 [l0] [v1, .ref b, r0] h = zrc (h.1 b) 13 (zbk (C 207 [.ref b, v1] h) (fun v h' => zrun zP sv C 206 8 [l0] (v.toList ++ [r0]) h') (fun E h' => some (.inr E, h'))) := zx_cv (x0 := 13) rfl rfl rfl rfl rfl ⟨Nat.le_of_ble_eq_true rfl, rfl⟩ (fun _ _ => rfl)
theorem zs_206_8 : zrun zP sv C 206 8 [l0] [.ref a] h = some (.inl (some (.ref a)), h) := zx_end rfl rfl
theorem zs_206_8n : zrun zP sv C 206 8 [l0] [.null] h = some (.inl (some (.null)), h) := zx_end rfl rfl
theorem zs_207_0 : zrun zP sv C 207 0 [.val (.ref a), l1] st h = zrun zP sv C 207 1 [.val (.ref a), l1] (.ref a :: st) h := zx_go rfl rfl
theorem zs_207_0n : zrun zP sv C 207 0 [.val .null, l1] st h = zrun zP sv C 207 1 [.val .null, l1] (.null :: st) h := zx_go rfl rfl
theorem zs_207_1 : zrun zP sv C 207 1 [l0, .val (.ref a)] st h = zrun zP sv C 207 2 [l0, .val (.ref a)] (.ref a :: st) h := zx_go rfl rfl
theorem zs_207_1n : zrun zP sv C 207 1 [l0, .val .null] st h = zrun zP sv C 207 2 [l0, .val .null] (.null :: st) h := zx_go rfl rfl
theorem zs_207_2 : zrun zP sv C 207 2 [l0, l1] st h = zrun zP sv C 207 3 [l0, l1] (.null :: st) h := zx_go rfl rfl
theorem zs_207_3 : zrun zP sv C 207 3 [l0, l1] [v2, v1, .ref b] h = zrc (h.1 b) 13 (zbk (C 208 [.ref b, v1, v2] h) (fun v h' => zrun zP sv C 207 6 [l0, l1] (v.toList ++ []) h') (fun E h' => some (.inr E, h'))) := zx_cv (x0 := 13) rfl rfl rfl rfl rfl ⟨Nat.le_of_ble_eq_true rfl, rfl⟩ (fun _ _ => rfl)
theorem zs_207_6 : zrun zP sv C 207 6 [l0, l1] [] h = some (.inl none, h) := zx_end rfl rfl
theorem zs_208_0 : zrun zP sv C 208 0 [.val (.ref a), l1, l2, l3, l4] st h = zrun zP sv C 208 1 [.val (.ref a), l1, l2, l3, l4] (.ref a :: st) h := zx_go rfl rfl
theorem zs_208_0n : zrun zP sv C 208 0 [.val .null, l1, l2, l3, l4] st h = zrun zP sv C 208 1 [.val .null, l1, l2, l3, l4] (.null :: st) h := zx_go rfl rfl
theorem zs_208_1 : zrun zP sv C 208 1 [l0, l1, l2, l3, l4] [.ref a] h = zrun zP sv C 208 4 [l0, l1, l2, l3, l4] [] h := zx_go rfl rfl
theorem zs_208_4 : zrun zP sv C 208 4 [l0, .val (.ref a), l2, l3, l4] st h = zrun zP sv C 208 5 [l0, .val (.ref a), l2, l3, l4] (.ref a :: st) h := zx_go rfl rfl
theorem zs_208_4n : zrun zP sv C 208 4 [l0, .val .null, l2, l3, l4] st h = zrun zP sv C 208 5 [l0, .val .null, l2, l3, l4] (.null :: st) h := zx_go rfl rfl
theorem zs_208_5 : zrun zP sv C 208 5 [l0, l1, l2, l3, l4] [.ref b] h = zrc (h.1 b) 2 (zbk (C 209 [.ref b] h) (fun v h' => zrun zP sv C 208 8 [l0, l1, l2, l3, l4] (v.toList ++ []) h') (fun E h' => some (.inr E, h'))) := zx_cv (x0 := 2) rfl rfl rfl rfl rfl ⟨Nat.le_of_ble_eq_true rfl, rfl⟩ (fun _ _ => rfl)
theorem zs_208_8 (hs : znw l3 = true) : zrun zP sv C 208 8 [l0, l1, l2, l3, l4] (.ref a :: st) h = zrun zP sv C 208 9 [l0, l1, l2, .val (.ref a), l4] st h := zx_st hs rfl rfl rfl rfl rfl rfl
theorem zs_208_8n (hs : znw l3 = true) : zrun zP sv C 208 8 [l0, l1, l2, l3, l4] (.null :: st) h = zrun zP sv C 208 9 [l0, l1, l2, .val (.null), l4] st h := zx_st hs rfl rfl rfl rfl rfl rfl
theorem zs_208_9 : zrun zP sv C 208 9 [l0, .val (.ref a), l2, l3, l4] st h = zrun zP sv C 208 10 [l0, .val (.ref a), l2, l3, l4] (.ref a :: st) h := zx_go rfl rfl
theorem zs_208_9n : zrun zP sv C 208 9 [l0, .val .null, l2, l3, l4] st h = zrun zP sv C 208 10 [l0, .val .null, l2, l3, l4] (.null :: st) h := zx_go rfl rfl
theorem zs_208_10 : zrun zP sv C 208 10 [l0, l1, l2, l3, l4] [.ref b] h = zrc (h.1 b) 2 (zbk (C 13 [.ref b] h) (fun v h' => zrun zP sv C 208 13 [l0, l1, l2, l3, l4] (v.toList ++ []) h') (fun E h' => some (.inr E, h'))) := zx_cv (x0 := 2) rfl rfl rfl rfl rfl ⟨Nat.le_of_ble_eq_true rfl, rfl⟩ (fun _ _ => rfl)
theorem zs_208_13 (hs : znw l4 = true) : zrun zP sv C 208 13 [l0, l1, l2, l3, l4] (.int x :: st) h = zrun zP sv C 208 15 [l0, l1, l2, l3, .val (.int x)] st h := zx_st hs rfl rfl rfl rfl rfl rfl
theorem zs_208_15 : zrun zP sv C 208 15 [l0, .val (.ref a), l2, l3, l4] st h = zrun zP sv C 208 16 [l0, .val (.ref a), l2, l3, l4] (.ref a :: st) h := zx_go rfl rfl
theorem zs_208_15n : zrun zP sv C 208 15 [l0, .val .null, l2, l3, l4] st h = zrun zP sv C 208 16 [l0, .val .null, l2, l3, l4] (.null :: st) h := zx_go rfl rfl
theorem zs_208_16 : zrun zP sv C 208 16 [l0, l1, l2, l3, l4] [.ref b] h = zrc (h.1 b) 2 (zbk (C 8 [.ref b] h) (fun v h' => zrun zP sv C 208 19 [l0, l1, l2, l3, l4] (v.toList ++ []) h') (fun E h' => some (.inr E, h'))) := zx_cv (x0 := 2) rfl rfl rfl rfl rfl ⟨Nat.le_of_ble_eq_true rfl, rfl⟩ (fun _ _ => rfl)
theorem zs_208_19 : zrun zP sv C 208 19 [l0, l1, l2, l3, l4] (.int x :: st) h = if x = 0 then zrun zP sv C 208 41 [l0, l1, l2, l3, l4] st h else zrun zP sv C 208 22 [l0, l1, l2, l3, l4] st h := (zx_if rfl rfl).trans zc0_if
theorem zs_208_22 : zrun zP sv C 208 22 [.val (.ref a), l1, l2, l3, l4] st h = zrun zP sv C 208 23 [.val (.ref a), l1, l2, l3, l4] (.ref a :: st) h := zx_go rfl rfl
theorem zs_208_22n : zrun zP sv C 208 22 [.val .null, l1, l2, l3, l4] st h = zrun zP sv C 208 23 [.val .null, l1, l2, l3, l4] (.null :: st) h := zx_go rfl rfl
theorem zs_208_23 : zrun zP sv C 208 23 [l0, l1, l2, l3, l4] st h = zrun zP sv C 208 24 [l0, l1, l2, l3, l4] (.int 0 :: st) h := zx_go rfl rfl
theorem zs_208_24 : zrun zP sv C 208 24 [l0, l1, l2, l3, l4] (.int x :: .ref a :: st) h = zpfd (h.1 a) 13 1 6 (.int x) (fun c => zrun zP sv C 208 27 [l0, l1, l2, l3, l4] st (zup h a c)) := zx_putf (x0 := 6) rfl rfl
theorem zs_208_27 : zrun zP sv C 208 27 [.val (.ref a), l1, l2, l3, l4] st h = zrun zP sv C 208 28 [.val (.ref a), l1, l2, l3, l4] (.ref a :: st) h := zx_go rfl rfl
theorem zs_208_27n : zrun zP sv C 208 27 [.val .null, l1, l2, l3, l4] st h = zrun zP sv C 208 28 [.val .null, l1, l2, l3, l4] (.null :: st) h := zx_go rfl rfl
theorem zs_208_28 : zrun zP sv C 208 28 [l0, l1, l2, .val (.ref a), l4] st h = zrun zP sv C 208 29 [l0, l1, l2, .val (.ref a), l4] (.ref a :: st) h := zx_go rfl rfl
theorem zs_208_28n : zrun zP sv C 208 28 [l0, l1, l2, .val .null, l4] st h = zrun zP sv C 208 29 [l0, l1, l2, .val .null, l4] (.null :: st) h := zx_go rfl rfl
theorem zs_208_29 : zrun zP sv C 208 29 [l0, l1, l2, l3, l4] st h = zrun zP sv C 208 30 [l0, l1, l2, l3, l4] (.int 0 :: st) h := zx_go rfl rfl
theorem zs_208_30 : zrun zP sv C 208 30 [l0, l1, l2, l3, .val (.int x)] st h = zrun zP sv C 208 32 [l0, l1, l2, l3, .val (.int x)] (.int x :: st) h := zx_go rfl rfl
theorem zs_208_32 : zrun zP sv C 208 32 [l0, l1, l2, l3, l4] [v2, v1, v0, r0] h = zbk (C 210 [v0, v1, v2] h) (fun v h' => zrun zP sv C 208 35 [l0, l1, l2, l3, l4] (v.toList ++ [r0]) h') (fun E h' => some (.inr E, h')) := zx_cs rfl rfl rfl rfl ⟨Nat.le_of_ble_eq_true rfl, rfl⟩ (fun _ _ => rfl)
theorem zs_208_35 : zrun zP sv C 208 35 [l0, l1, l2, l3, l4] (.ref b :: .ref a :: st) h = zpfd (h.1 a) 13 0 4 (.ref b) (fun c => zrun zP sv C 208 38 [l0, l1, l2, l3, l4] st (zup h a c)) := zx_putf (x0 := 4) rfl rfl
theorem zs_208_35n : zrun zP sv C 208 35 [l0, l1, l2, l3, l4] (.null :: .ref a :: st) h = zpfd (h.1 a) 13 0 4 (.null) (fun c => zrun zP sv C 208 38 [l0, l1, l2, l3, l4] st (zup h a c)) := zx_putf (x0 := 4) rfl rfl
theorem zs_208_38 : zrun zP sv C 208 38 [l0, l1, l2, l3, l4] st h = zrun zP sv C 208 97 [l0, l1, l2, l3, l4] st h := zx_go rfl rfl
theorem zs_208_41 : zrun zP sv C 208 41 [l0, l1, l2, l3, l4] st h = zrun zP sv C 208 44 [l0, l1, l2, l3, l4] (sv 0 :: st) h := zx_go rfl rfl
theorem zs_208_44 : zrun zP sv C 208 44 [l0, l1, l2, l3, l4] (.int x :: st) h = if x = 0 then zrun zP sv C 208 79 [l0, l1, l2, l3, l4] st h else zrun zP sv C 208 47 [l0, l1, l2, l3, l4] st h := (zx_if rfl rfl).trans zc0_if
theorem zs_208_47 : zrun zP sv C 208 47 [l0, .val (.ref a), l2, l3, l4] st h = zrun zP sv C 208 48 [l0, .val (.ref a), l2, l3, l4] (.ref a :: st) h := zx_go rfl rfl
theorem zs_208_47n : zrun zP sv C 208 47 [l0, .val .null, l2, l3, l4] st h = zrun zP sv C 208 48 [l0, .val .null, l2, l3, l4] (.null :: st) h := zx_go rfl rfl
theorem zs_208_48 : zrun zP sv C 208 48 [l0, l1, l2, l3, l4] (.ref a :: st) h = zfld (h.1 a) 2 2 (fun v => zrun zP sv C 208 51 [l0, l1, l2, l3, l4] (v :: st) h) := zx_getf rfl rfl
theorem zs_208_51 : zrun zP sv C 208 51 [l0, l1, l2, l3, l4] (.int x :: st) h = if x = 0 then zrun zP sv C 208 79 [l0, l1, l2, l3, l4] st h else zrun zP sv C 208 54 [l0, l1, l2, l3, l4] st h := (zx_if rfl rfl).trans zc0_if
theorem zs_208_54 : zrun zP sv C 208 54 [.val (.ref a), l1, l2, l3, l4] st h = zrun zP sv C 208 55 [.val (.ref a), l1, l2, l3, l4] (.ref a :: st) h := zx_go rfl rfl
theorem zs_208_54n : zrun zP sv C 208 54 [.val .null, l1, l2, l3, l4] st h = zrun zP sv C 208 55 [.val .null, l1, l2, l3, l4] (.null :: st) h := zx_go rfl rfl
theorem zs_208_55 : zrun zP sv C 208 55 [l0, l1, l2, .val (.ref a), l4] st h = zrun zP sv C 208 56 [l0, l1, l2, .val (.ref a), l4] (.ref a :: st) h := zx_go rfl rfl
theorem zs_208_55n : zrun zP sv C 208 55 [l0, l1, l2, .val .null, l4] st h = zrun zP sv C 208 56 [l0, l1, l2, .val .null, l4] (.null :: st) h := zx_go rfl rfl
theorem zs_208_56 : zrun zP sv C 208 56 [l0, l1, l2, l3, l4] st h = zrun zP sv C 208 57 [l0, l1, l2, l3, l4] (.int 0 :: st) h := zx_go rfl rfl
theorem zs_208_57 : zrun zP sv C 208 57 [l0, l1, l2, l3, .val (.int x)] st h = zrun zP sv C 208 59 [l0, l1, l2, l3, .val (.int x)] (.int x :: st) h := zx_go rfl rfl
theorem zs_208_79 : zrun zP sv C 208 79 [.val (.ref a), l1, l2, l3, l4] st h = zrun zP sv C 208 80 [.val (.ref a), l1, l2, l3, l4] (.ref a :: st) h := zx_go rfl rfl
theorem zs_208_79n : zrun zP sv C 208 79 [.val .null, l1, l2, l3, l4] st h = zrun zP sv C 208 80 [.val .null, l1, l2, l3, l4] (.null :: st) h := zx_go rfl rfl
theorem zs_208_80 : zrun zP sv C 208 80 [l0, l1, l2, l3, l4] st h = zrun zP sv C 208 81 [l0, l1, l2, l3, l4] (.int (nI 1) :: st) h := zx_go rfl rfl
theorem zs_208_81 : zrun zP sv C 208 81 [l0, l1, l2, l3, l4] (.int x :: .ref a :: st) h = zpfd (h.1 a) 13 1 6 (.int x) (fun c => zrun zP sv C 208 84 [l0, l1, l2, l3, l4] st (zup h a c)) := zx_putf (x0 := 6) rfl rfl
theorem zs_208_84 : zrun zP sv C 208 84 [.val (.ref a), l1, l2, l3, l4] st h = zrun zP sv C 208 85 [.val (.ref a), l1, l2, l3, l4] (.ref a :: st) h := zx_go rfl rfl
theorem zs_208_84n : zrun zP sv C 208 84 [.val .null, l1, l2, l3, l4] st h = zrun zP sv C 208 85 [.val .null, l1, l2, l3, l4] (.null :: st) h := zx_go rfl rfl
theorem zs_208_85 : zrun zP sv C 208 85 [l0, l1, l2, .val (.ref a), l4] st h = zrun zP sv C 208 86 [l0, l1, l2, .val (.ref a), l4] (.ref a :: st) h := zx_go rfl rfl
theorem zs_208_85n : zrun zP sv C 208 85 [l0, l1, l2, .val .null, l4] st h = zrun zP sv C 208 86 [l0, l1, l2, .val .null, l4] (.null :: st) h := zx_go rfl rfl
theorem zs_208_86 : zrun zP sv C 208 86 [l0, l1, l2, l3, l4] st h = zrun zP sv C 208 87 [l0, l1, l2, l3, l4] (.int 0 :: st) h := zx_go rfl rfl
theorem zs_208_87 : zrun zP sv C 208 87 [l0, l1, l2, l3, .val (.int x)] st h = zrun zP sv C 208 89 [l0, l1, l2, l3, .val (.int x)] (.int x :: st) h := zx_go rfl rfl
theorem zs_208_89 : zrun zP sv C 208 89 [l0, l1, l2, l3, l4] st h = zrun zP sv C 208 90 [l0, l1, l2, l3, l4] (.int (nI 1) :: st) h := zx_go rfl rfl
theorem zs_208_90 : zrun zP sv C 208 90 [l0, l1, l2, l3, l4] (.int y :: .int x :: st) h = zrun zP sv C 208 91 [l0, l1, l2, l3, l4] (.int (x <<< (y &&& 31)) :: st) h := zx_go rfl rfl
theorem zs_208_91 : zrun zP sv C 208 91 [l0, l1, l2, l3, l4] [v2, v1, v0, r0] h = zbk (C 210 [v0, v1, v2] h) (fun v h' => zrun zP sv C 208 94 [l0, l1, l2, l3, l4] (v.toList ++ [r0]) h') (fun E h' => some (.inr E, h')) := zx_cs rfl rfl rfl rfl ⟨Nat.le_of_ble_eq_true rfl, rfl⟩ (fun _ _ => rfl)
theorem zs_208_94 : zrun zP sv C 208 94 [l0, l1, l2, l3, l4] (.ref b :: .ref a :: st) h = zpfd (h.1 a) 13 0 4 (.ref b) (fun c => zrun zP sv C 208 97 [l0, l1, l2, l3, l4] st (zup h a c)) := zx_putf (x0 := 4) rfl rfl
theorem zs_208_94n : zrun zP sv C 208 94 [l0, l1, l2, l3, l4] (.null :: .ref a :: st) h = zpfd (h.1 a) 13 0 4 (.null) (fun c => zrun zP sv C 208 97 [l0, l1, l2, l3, l4] st (zup h a c)) := zx_putf (x0 := 4) rfl rfl
theorem zs_208_97 : zrun zP sv C 208 97 [l0, l1, l2, l3, l4] [] h = some (.inl none, h) := zx_end rfl rfl
theorem zs_209_0 : zrun zP sv C 209 0 [.val (.ref a)] st h = zrun zP sv C 209 1 [.val (.ref a)] (.ref a :: st) h := zx_go rfl rfl
theorem zs_209_0n : zrun zP sv C 209 0 [.val .null] st h = zrun zP sv C 209 1 [.val .null] (.null :: st) h := zx_go rfl rfl
theorem zs_209_1 : zrun zP sv C 209 1 [l0] (.ref a :: st) h = zfld (h.1 a) 2 0 (fun v => zrun zP sv C 209 4 [l0] (v :: st) h) := zx_getf rfl rfl
theorem zs_209_4 : zrun zP sv C 209 4 [l0] [.ref a] h = some (.inl (some (.ref a)), h) := zx_end rfl rfl
theorem zs_209_4n : zrun zP sv C 209 4 [l0] [.null] h = some (.inl (some (.null)), h) := zx_end rfl rfl
theorem zs_210_0 : zrun zP sv C 210 0 [l0, .val (.int x), l2] st h = zrun zP sv C 210 1 [l0, .val (.int x), l2] (.int x :: st) h := zx_go rfl rfl
theorem zs_210_1 : zrun zP sv C 210 1 [l0, l1, l2] (.int x :: st) h = if x = 0 then zrun zP sv C 210 4 [l0, l1, l2] st h else zrun zP sv C 210 10 [l0, l1, l2] st h := (zx_if rfl rfl).trans zc1_if
theorem zs_210_4 : zrun zP sv C 210 4 [l0, l1, .val (.int x)] st h = zrun zP sv C 210 5 [l0, l1, .val (.int x)] (.int x :: st) h := zx_go rfl rfl
theorem zs_210_5 : zrun zP sv C 210 5 [.val (.ref a), l1, l2] st h = zrun zP sv C 210 6 [.val (.ref a), l1, l2] (.ref a :: st) h := zx_go rfl rfl
theorem zs_210_5n : zrun zP sv C 210 5 [.val .null, l1, l2] st h = zrun zP sv C 210 6 [.val .null, l1, l2] (.null :: st) h := zx_go rfl rfl
theorem zs_210_6 : zrun zP sv C 210 6 [l0, l1, l2] (.ref a :: st) h = zaln (h.1 a) (fun v => zrun zP sv C 210 7 [l0, l1, l2] (.int v :: st) h) := zx_aln rfl rfl
theorem zs_210_7 : zrun zP sv C 210 7 [l0, l1, l2] (.int y :: .int x :: st) h = if x = y then zrun zP sv C 210 17 [l0, l1, l2] st h else zrun zP sv C 210 10 [l0, l1, l2] st h := (zx_ic rfl rfl).trans zc0_if
theorem zs_210_10 : zrun zP sv C 210 10 [.val (.ref a), l1, l2] st h = zrun zP sv C 210 11 [.val (.ref a), l1, l2] (.ref a :: st) h := zx_go rfl rfl
theorem zs_210_10n : zrun zP sv C 210 10 [.val .null, l1, l2] st h = zrun zP sv C 210 11 [.val .null, l1, l2] (.null :: st) h := zx_go rfl rfl
theorem zs_210_11 : zrun zP sv C 210 11 [l0, .val (.int x), l2] st h = zrun zP sv C 210 12 [l0, .val (.int x), l2] (.int x :: st) h := zx_go rfl rfl
theorem zs_210_12 : zrun zP sv C 210 12 [l0, l1, .val (.int x)] st h = zrun zP sv C 210 13 [l0, l1, .val (.int x)] (.int x :: st) h := zx_go rfl rfl
theorem zs_210_13 : zrun zP sv C 210 13 [l0, l1, l2] [v2, v1, v0] h = zbk (C 211 [v0, v1, v2] h) (fun v h' => zrun zP sv C 210 16 [l0, l1, l2] (v.toList ++ []) h') (fun E h' => some (.inr E, h')) := zx_cs rfl rfl rfl rfl ⟨Nat.le_of_ble_eq_true rfl, rfl⟩ (fun _ _ => rfl)
theorem zs_210_16 : zrun zP sv C 210 16 [l0, l1, l2] [.ref a] h = some (.inl (some (.ref a)), h) := zx_end rfl rfl
theorem zs_210_16n : zrun zP sv C 210 16 [l0, l1, l2] [.null] h = some (.inl (some (.null)), h) := zx_end rfl rfl
theorem zs_210_17 : zrun zP sv C 210 17 [.val (.ref a), l1, l2] st h = zrun zP sv C 210 18 [.val (.ref a), l1, l2] (.ref a :: st) h := zx_go rfl rfl
theorem zs_210_17n : zrun zP sv C 210 17 [.val .null, l1, l2] st h = zrun zP sv C 210 18 [.val .null, l1, l2] (.null :: st) h := zx_go rfl rfl
theorem zs_210_18 : zrun zP sv C 210 18 [l0, l1, l2] [.ref a] h = zcle (h.1 a) (fun vs => zrun zP sv C 210 21 [l0, l1, l2] [.ref h.2.1] (znew h (24, vs) vs.length)) := zx_cln rfl rfl (Nat.le_of_ble_eq_true rfl)
theorem zs_210_21 : zrun zP sv C 210 21 [l0, l1, l2] (.ref a :: st) h = zck24 (h.1 a) (zrun zP sv C 210 24 [l0, l1, l2] (.ref a :: st) h) := zx_cbt rfl rfl
theorem zs_210_24 : zrun zP sv C 210 24 [l0, l1, l2] [.ref a] h = some (.inl (some (.ref a)), h) := zx_end rfl rfl
theorem zs_210_24n : zrun zP sv C 210 24 [l0, l1, l2] [.null] h = some (.inl (some (.null)), h) := zx_end rfl rfl
theorem zs_211_0 : zrun zP sv C 211 0 [l0, .val (.int x), l2, l3, l4] st h = zrun zP sv C 211 1 [l0, .val (.int x), l2, l3, l4] (.int x :: st) h := zx_go rfl rfl
theorem zs_211_1 : zrun zP sv C 211 1 [l0, l1, .val (.int x), l3, l4] st h = zrun zP sv C 211 2 [l0, l1, .val (.int x), l3, l4] (.int x :: st) h := zx_go rfl rfl
theorem zs_211_2 : zrun zP sv C 211 2 [l0, l1, l2, l3, l4] [v1, v0] h = zbk (C 212 [v0, v1] h) (fun v h' => zrun zP sv C 211 5 [l0, l1, l2, l3, l4] (v.toList ++ []) h') (fun E h' => some (.inr E, h')) := zx_cs rfl rfl rfl rfl ⟨Nat.le_of_ble_eq_true rfl, rfl⟩ (fun _ _ => rfl)
theorem zs_211_5 : zrun zP sv C 211 5 [l0, l1, .val (.int x), l3, l4] st h = zrun zP sv C 211 6 [l0, l1, .val (.int x), l3, l4] (.int x :: st) h := zx_go rfl rfl
theorem zs_211_6 : zrun zP sv C 211 6 [l0, .val (.int x), l2, l3, l4] st h = zrun zP sv C 211 7 [l0, .val (.int x), l2, l3, l4] (.int x :: st) h := zx_go rfl rfl
theorem zs_211_7 : zrun zP sv C 211 7 [l0, l1, l2, l3, l4] (.int y :: .int x :: st) h = zrun zP sv C 211 8 [l0, l1, l2, l3, l4] (.int (x - y) :: st) h := zx_go rfl rfl
theorem zs_211_8 (hs : znw l3 = true) : zrun zP sv C 211 8 [l0, l1, l2, l3, l4] (.int x :: st) h = zrun zP sv C 211 9 [l0, l1, l2, .val (.int x), l4] st h := zx_st hs rfl rfl rfl rfl rfl rfl
theorem zs_211_9 : zrun zP sv C 211 9 [l0, l1, l2, .val (.int x), l4] st h = zrun zP sv C 211 10 [l0, l1, l2, .val (.int x), l4] (.int x :: st) h := zx_go rfl rfl
theorem zs_211_10 : zrun zP sv C 211 10 [l0, l1, l2, l3, l4] (.int x :: st) h = znwa x (fun q => zrun zP sv C 211 12 [l0, l1, l2, l3, l4] (.ref h.2.1 :: st) (znew h (24, List.replicate q (.int 0)) q)) := zx_nwa rfl rfl
theorem zs_211_12 (hs : znw l4 = true) : zrun zP sv C 211 12 [l0, l1, l2, l3, l4] (.ref a :: st) h = zrun zP sv C 211 14 [l0, l1, l2, l3, .val (.ref a)] st h := zx_st hs rfl rfl rfl rfl rfl rfl
theorem zs_211_12n (hs : znw l4 = true) : zrun zP sv C 211 12 [l0, l1, l2, l3, l4] (.null :: st) h = zrun zP sv C 211 14 [l0, l1, l2, l3, .val (.null)] st h := zx_st hs rfl rfl rfl rfl rfl rfl
theorem zs_211_14 : zrun zP sv C 211 14 [.val (.ref a), l1, l2, l3, l4] st h = zrun zP sv C 211 15 [.val (.ref a), l1, l2, l3, l4] (.ref a :: st) h := zx_go rfl rfl
theorem zs_211_14n : zrun zP sv C 211 14 [.val .null, l1, l2, l3, l4] st h = zrun zP sv C 211 15 [.val .null, l1, l2, l3, l4] (.null :: st) h := zx_go rfl rfl
theorem zs_211_15 : zrun zP sv C 211 15 [l0, .val (.int x), l2, l3, l4] st h = zrun zP sv C 211 16 [l0, .val (.int x), l2, l3, l4] (.int x :: st) h := zx_go rfl rfl
theorem zs_211_16 : zrun zP sv C 211 16 [l0, l1, l2, l3, .val (.ref a)] st h = zrun zP sv C 211 18 [l0, l1, l2, l3, .val (.ref a)] (.ref a :: st) h := zx_go rfl rfl
theorem zs_211_16n : zrun zP sv C 211 16 [l0, l1, l2, l3, .val .null] st h = zrun zP sv C 211 18 [l0, l1, l2, l3, .val .null] (.null :: st) h := zx_go rfl rfl
theorem zs_211_18 : zrun zP sv C 211 18 [l0, l1, l2, l3, l4] st h = zrun zP sv C 211 19 [l0, l1, l2, l3, l4] (.int 0 :: st) h := zx_go rfl rfl
theorem zs_211_19 : zrun zP sv C 211 19 [.val (.ref a), l1, l2, l3, l4] st h = zrun zP sv C 211 20 [.val (.ref a), l1, l2, l3, l4] (.ref a :: st) h := zx_go rfl rfl
theorem zs_211_19n : zrun zP sv C 211 19 [.val .null, l1, l2, l3, l4] st h = zrun zP sv C 211 20 [.val .null, l1, l2, l3, l4] (.null :: st) h := zx_go rfl rfl
theorem zs_211_20 : zrun zP sv C 211 20 [l0, l1, l2, l3, l4] (.ref a :: st) h = zaln (h.1 a) (fun v => zrun zP sv C 211 21 [l0, l1, l2, l3, l4] (.int v :: st) h) := zx_aln rfl rfl
theorem zs_211_21 : zrun zP sv C 211 21 [l0, .val (.int x), l2, l3, l4] st h = zrun zP sv C 211 22 [l0, .val (.int x), l2, l3, l4] (.int x :: st) h := zx_go rfl rfl
theorem zs_211_22 : zrun zP sv C 211 22 [l0, l1, l2, l3, l4] (.int y :: .int x :: st) h = zrun zP sv C 211 23 [l0, l1, l2, l3, l4] (.int (x - y) :: st) h := zx_go rfl rfl
theorem zs_211_23 : zrun zP sv C 211 23 [l0, l1, l2, .val (.int x), l4] st h = zrun zP sv C 211 24 [l0, l1, l2, .val (.int x), l4] (.int x :: st) h := zx_go rfl rfl
theorem zs_211_24 : zrun zP sv C 211 24 [l0, l1, l2, l3, l4] [.int y, .int x, r0, r1, r2, r3] h = zrun zP sv C 211 27 [l0, l1, l2, l3, l4] [.int (if y < x then y else x), r0, r1, r2, r3] h := zx_go rfl rfl
theorem zs_211_27 : zrun zP sv C 211 27 [l0, l1, l2, l3, l4] st h = znx zP sv C 211 27 [l0, l1, l2, l3, l4] h (zcopy 30 [l0, l1, l2, l3, l4] st h) := zx_eq rfl rfl
theorem zs_211_30 : zrun zP sv C 211 30 [l0, l1, l2, l3, .val (.ref a)] st h = zrun zP sv C 211 32 [l0, l1, l2, l3, .val (.ref a)] (.ref a :: st) h := zx_go rfl rfl
theorem zs_211_30n : zrun zP sv C 211 30 [l0, l1, l2, l3, .val .null] st h = zrun zP sv C 211 32 [l0, l1, l2, l3, .val .null] (.null :: st) h := zx_go rfl rfl
theorem zs_211_32 : zrun zP sv C 211 32 [l0, l1, l2, l3, l4] [.ref a] h = some (.inl (some (.ref a)), h) := zx_end rfl rfl
theorem zs_211_32n : zrun zP sv C 211 32 [l0, l1, l2, l3, l4] [.null] h = some (.inl (some (.null)), h) := zx_end rfl rfl
theorem zs_212_0 : zrun zP sv C 212 0 [l0, .val (.int x)] st h = zrun zP sv C 212 1 [l0, .val (.int x)] (.int x :: st) h := zx_go rfl rfl
theorem zs_212_1 : zrun zP sv C 212 1 [.val (.int x), l1] st h = zrun zP sv C 212 2 [.val (.int x), l1] (.int x :: st) h := zx_go rfl rfl
theorem zs_212_2 : zrun zP sv C 212 2 [l0, l1] (.int y :: .int x :: st) h = if x < y then zrun zP sv C 212 5 [l0, l1] st h else zrun zP sv C 212 37 [l0, l1] st h := (zx_ic rfl rfl).trans zc3_if
theorem zs_212_37 : zrun zP sv C 212 37 [l0, l1] [] h = some (.inl none, h) := zx_end rfl rfl
theorem zs_213_0 : zrun zP sv C 213 0 [.val (.double xd), l1] st h = zrun zP sv C 213 1 [.val (.double xd), l1] (.double xd :: st) h := zx_go rfl rfl
theorem zs_213_1 : zrun zP sv C 213 1 [l0, l1] [v0] h = zbk (C 214 [v0] h) (fun v h' => zrun zP sv C 213 4 [l0, l1] (v.toList ++ []) h') (fun E h' => some (.inr E, h')) := zx_cs rfl rfl rfl rfl ⟨Nat.le_of_ble_eq_true rfl, rfl⟩ (fun _ _ => rfl)
theorem zs_213_4 : zrun zP sv C 213 4 [l0, l1] (.int x :: st) h = if x = 0 then zrun zP sv C 213 7 [l0, l1] st h else zrun zP sv C 213 12 [l0, l1] st h := (zx_if rfl rfl).trans zc1_if
theorem zs_213_7 : zrun zP sv C 213 7 [.val (.double xd), l1] st h = zrun zP sv C 213 8 [.val (.double xd), l1] (.double xd :: st) h := zx_go rfl rfl
theorem zs_213_8 : zrun zP sv C 213 8 [l0, l1] [.double xd] h = zrun zP sv C 213 11 [l0, l1] [.long xd.toInt64] h := zx_go rfl rfl
theorem zs_213_11 : zrun zP sv C 213 11 [l0, l1] [.long xl] h = some (.inl (some (.long xl)), h) := zx_end rfl rfl
theorem zs_213_12 : zrun zP sv C 213 12 [l0, l1] st h = zrun zP sv C 213 15 [l0, l1] (.long (9221120237041090560) :: st) h := zx_go rfl rfl
theorem zs_213_15 : zrun zP sv C 213 15 [l0, l1] [.long xl] h = some (.inl (some (.long xl)), h) := zx_end rfl rfl
theorem zs_214_0 : zrun zP sv C 214 0 [.val (.double xd), l1] st h = zrun zP sv C 214 1 [.val (.double xd), l1] (.double xd :: st) h := zx_go rfl rfl
theorem zs_214_1 : zrun zP sv C 214 1 [.val (.double xd), l1] st h = zrun zP sv C 214 2 [.val (.double xd), l1] (.double xd :: st) h := zx_go rfl rfl
theorem zs_214_2 : zrun zP sv C 214 2 [l0, l1] (.double xe :: .double xd :: st) h = zrun zP sv C 214 3 [l0, l1] (.int (Op.cmpValue (FP.dcmp xd xe) .l) :: st) h := zx_go rfl rfl
theorem zs_214_3 : zrun zP sv C 214 3 [l0, l1] (.int x :: st) h = if x = 0 then zrun zP sv C 214 10 [l0, l1] st h else zrun zP sv C 214 6 [l0, l1] st h := (zx_if rfl rfl).trans zc0_if
theorem zs_214_6 : zrun zP sv C 214 6 [l0, l1] st h = zrun zP sv C 214 7 [l0, l1] (.int (nI 1) :: st) h := zx_go rfl rfl
theorem zs_214_7 : zrun zP sv C 214 7 [l0, l1] st h = zrun zP sv C 214 11 [l0, l1] st h := zx_go rfl rfl
theorem zs_214_10 : zrun zP sv C 214 10 [l0, l1] st h = zrun zP sv C 214 11 [l0, l1] (.int 0 :: st) h := zx_go rfl rfl
theorem zs_214_11 : zrun zP sv C 214 11 [l0, l1] [.int x] h = zgd (zty 5 (.int x)) (some (.inl (some (.int x)), h)) := zx_rt rfl
end ZSTEPS
