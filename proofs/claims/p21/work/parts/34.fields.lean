/-! Fields read and written, a rule each. Printed by wip/gen/fields.py. -/
theorem zfld_b {kd j : Nat} {vs : List Value} {K : Value → zR} {v : Value} (hv : vs[j]? = some v) : zfld (kd, vs) kd j K = K v := by
  unfold zfld
  have := (List.getElem?_eq_some_iff.mp hv).1
  rw [if_pos ⟨rfl, this⟩, List.getD_eq_getElem?_getD, hv]
  rfl
theorem zpfd_g {kd j t : Nat} {vs vs' : List Value} {v : Value} {K : zC → zR} (hj : Nat.blt j vs.length = true) (hs : vs.set j v = vs') : zpfd (kd, vs) kd j t v K = zgd (zty t v) (K (kd, vs')) := by
  subst hs
  unfold zpfd zgd
  have h1 : j < vs.length := by simpa using hj
  by_cases h : zty t v = true
  · rw [if_pos ⟨rfl, h1, h⟩, if_pos h]
  · rw [if_neg (fun q => h q.2.2), if_neg h]
section ZFIELDS
variable {K : Value → zR} {Kc : zC → zR} {x : Int32} {b : Nat} {v0 v1 v2 v3 v4 v5 v6 v7 v8 v9 v10 v11 v12 v13 v14 v15 v16 v17 v18 v19 v20 v21 v22 v23 v24 v25 v26 v27 v28 v29 v30 v31 v32 : Value}
theorem zrc_1 {X : zR} : zrc (1, [v0, v1, v2, v3, v4, v5, v6, v7, v8, v9, v10, v11, v12]) 1 X = X := zrc_k
theorem zf_1_0 : zfld (1, [v0, v1, v2, v3, v4, v5, v6, v7, v8, v9, v10, v11, v12]) 1 0 K = K v0 := zfld_b rfl
theorem zp_1_0 : zpfd (1, [v0, v1, v2, v3, v4, v5, v6, v7, v8, v9, v10, v11, v12]) 1 0 4 (.ref b) Kc = Kc (1, [.ref b, v1, v2, v3, v4, v5, v6, v7, v8, v9, v10, v11, v12]) := zpfd_g rfl rfl
theorem zp_1_0n : zpfd (1, [v0, v1, v2, v3, v4, v5, v6, v7, v8, v9, v10, v11, v12]) 1 0 4 .null Kc = Kc (1, [.null, v1, v2, v3, v4, v5, v6, v7, v8, v9, v10, v11, v12]) := zpfd_g rfl rfl
theorem zf_1_1 : zfld (1, [v0, v1, v2, v3, v4, v5, v6, v7, v8, v9, v10, v11, v12]) 1 1 K = K v1 := zfld_b rfl
theorem zp_1_1 : zpfd (1, [v0, v1, v2, v3, v4, v5, v6, v7, v8, v9, v10, v11, v12]) 1 1 0 (.int x) Kc = Kc (1, [v0, .int x, v2, v3, v4, v5, v6, v7, v8, v9, v10, v11, v12]) := zpfd_g rfl rfl
theorem zf_1_2 : zfld (1, [v0, v1, v2, v3, v4, v5, v6, v7, v8, v9, v10, v11, v12]) 1 2 K = K v2 := zfld_b rfl
theorem zp_1_2 : zpfd (1, [v0, v1, v2, v3, v4, v5, v6, v7, v8, v9, v10, v11, v12]) 1 2 4 (.ref b) Kc = Kc (1, [v0, v1, .ref b, v3, v4, v5, v6, v7, v8, v9, v10, v11, v12]) := zpfd_g rfl rfl
theorem zp_1_2n : zpfd (1, [v0, v1, v2, v3, v4, v5, v6, v7, v8, v9, v10, v11, v12]) 1 2 4 .null Kc = Kc (1, [v0, v1, .null, v3, v4, v5, v6, v7, v8, v9, v10, v11, v12]) := zpfd_g rfl rfl
theorem zf_1_3 : zfld (1, [v0, v1, v2, v3, v4, v5, v6, v7, v8, v9, v10, v11, v12]) 1 3 K = K v3 := zfld_b rfl
theorem zp_1_3 : zpfd (1, [v0, v1, v2, v3, v4, v5, v6, v7, v8, v9, v10, v11, v12]) 1 3 4 (.ref b) Kc = Kc (1, [v0, v1, v2, .ref b, v4, v5, v6, v7, v8, v9, v10, v11, v12]) := zpfd_g rfl rfl
theorem zp_1_3n : zpfd (1, [v0, v1, v2, v3, v4, v5, v6, v7, v8, v9, v10, v11, v12]) 1 3 4 .null Kc = Kc (1, [v0, v1, v2, .null, v4, v5, v6, v7, v8, v9, v10, v11, v12]) := zpfd_g rfl rfl
theorem zf_1_4 : zfld (1, [v0, v1, v2, v3, v4, v5, v6, v7, v8, v9, v10, v11, v12]) 1 4 K = K v4 := zfld_b rfl
theorem zp_1_40 : zpfd (1, [v0, v1, v2, v3, v4, v5, v6, v7, v8, v9, v10, v11, v12]) 1 4 5 (.int 0) Kc = Kc (1, [v0, v1, v2, v3, .int 0, v5, v6, v7, v8, v9, v10, v11, v12]) := zpfd_g rfl rfl
theorem zp_1_41 : zpfd (1, [v0, v1, v2, v3, v4, v5, v6, v7, v8, v9, v10, v11, v12]) 1 4 5 (.int (nI 1)) Kc = Kc (1, [v0, v1, v2, v3, .int (nI 1), v5, v6, v7, v8, v9, v10, v11, v12]) := zpfd_g rfl rfl
theorem zf_1_5 : zfld (1, [v0, v1, v2, v3, v4, v5, v6, v7, v8, v9, v10, v11, v12]) 1 5 K = K v5 := zfld_b rfl
theorem zp_1_5 : zpfd (1, [v0, v1, v2, v3, v4, v5, v6, v7, v8, v9, v10, v11, v12]) 1 5 4 (.ref b) Kc = Kc (1, [v0, v1, v2, v3, v4, .ref b, v6, v7, v8, v9, v10, v11, v12]) := zpfd_g rfl rfl
theorem zp_1_5n : zpfd (1, [v0, v1, v2, v3, v4, v5, v6, v7, v8, v9, v10, v11, v12]) 1 5 4 .null Kc = Kc (1, [v0, v1, v2, v3, v4, .null, v6, v7, v8, v9, v10, v11, v12]) := zpfd_g rfl rfl
theorem zf_1_6 : zfld (1, [v0, v1, v2, v3, v4, v5, v6, v7, v8, v9, v10, v11, v12]) 1 6 K = K v6 := zfld_b rfl
theorem zp_1_6 : zpfd (1, [v0, v1, v2, v3, v4, v5, v6, v7, v8, v9, v10, v11, v12]) 1 6 4 (.ref b) Kc = Kc (1, [v0, v1, v2, v3, v4, v5, .ref b, v7, v8, v9, v10, v11, v12]) := zpfd_g rfl rfl
theorem zp_1_6n : zpfd (1, [v0, v1, v2, v3, v4, v5, v6, v7, v8, v9, v10, v11, v12]) 1 6 4 .null Kc = Kc (1, [v0, v1, v2, v3, v4, v5, .null, v7, v8, v9, v10, v11, v12]) := zpfd_g rfl rfl
theorem zf_1_7 : zfld (1, [v0, v1, v2, v3, v4, v5, v6, v7, v8, v9, v10, v11, v12]) 1 7 K = K v7 := zfld_b rfl
theorem zp_1_7 : zpfd (1, [v0, v1, v2, v3, v4, v5, v6, v7, v8, v9, v10, v11, v12]) 1 7 4 (.ref b) Kc = Kc (1, [v0, v1, v2, v3, v4, v5, v6, .ref b, v8, v9, v10, v11, v12]) := zpfd_g rfl rfl
theorem zp_1_7n : zpfd (1, [v0, v1, v2, v3, v4, v5, v6, v7, v8, v9, v10, v11, v12]) 1 7 4 .null Kc = Kc (1, [v0, v1, v2, v3, v4, v5, v6, .null, v8, v9, v10, v11, v12]) := zpfd_g rfl rfl
theorem zf_1_8 : zfld (1, [v0, v1, v2, v3, v4, v5, v6, v7, v8, v9, v10, v11, v12]) 1 8 K = K v8 := zfld_b rfl
theorem zp_1_8 : zpfd (1, [v0, v1, v2, v3, v4, v5, v6, v7, v8, v9, v10, v11, v12]) 1 8 4 (.ref b) Kc = Kc (1, [v0, v1, v2, v3, v4, v5, v6, v7, .ref b, v9, v10, v11, v12]) := zpfd_g rfl rfl
theorem zp_1_8n : zpfd (1, [v0, v1, v2, v3, v4, v5, v6, v7, v8, v9, v10, v11, v12]) 1 8 4 .null Kc = Kc (1, [v0, v1, v2, v3, v4, v5, v6, v7, .null, v9, v10, v11, v12]) := zpfd_g rfl rfl
theorem zf_1_9 : zfld (1, [v0, v1, v2, v3, v4, v5, v6, v7, v8, v9, v10, v11, v12]) 1 9 K = K v9 := zfld_b rfl
theorem zp_1_9 : zpfd (1, [v0, v1, v2, v3, v4, v5, v6, v7, v8, v9, v10, v11, v12]) 1 9 4 (.ref b) Kc = Kc (1, [v0, v1, v2, v3, v4, v5, v6, v7, v8, .ref b, v10, v11, v12]) := zpfd_g rfl rfl
theorem zp_1_9n : zpfd (1, [v0, v1, v2, v3, v4, v5, v6, v7, v8, v9, v10, v11, v12]) 1 9 4 .null Kc = Kc (1, [v0, v1, v2, v3, v4, v5, v6, v7, v8, .null, v10, v11, v12]) := zpfd_g rfl rfl
theorem zf_1_10 : zfld (1, [v0, v1, v2, v3, v4, v5, v6, v7, v8, v9, v10, v11, v12]) 1 10 K = K v10 := zfld_b rfl
theorem zp_1_10 : zpfd (1, [v0, v1, v2, v3, v4, v5, v6, v7, v8, v9, v10, v11, v12]) 1 10 4 (.ref b) Kc = Kc (1, [v0, v1, v2, v3, v4, v5, v6, v7, v8, v9, .ref b, v11, v12]) := zpfd_g rfl rfl
theorem zp_1_10n : zpfd (1, [v0, v1, v2, v3, v4, v5, v6, v7, v8, v9, v10, v11, v12]) 1 10 4 .null Kc = Kc (1, [v0, v1, v2, v3, v4, v5, v6, v7, v8, v9, .null, v11, v12]) := zpfd_g rfl rfl
theorem zf_1_11 : zfld (1, [v0, v1, v2, v3, v4, v5, v6, v7, v8, v9, v10, v11, v12]) 1 11 K = K v11 := zfld_b rfl
theorem zp_1_11 : zpfd (1, [v0, v1, v2, v3, v4, v5, v6, v7, v8, v9, v10, v11, v12]) 1 11 4 (.ref b) Kc = Kc (1, [v0, v1, v2, v3, v4, v5, v6, v7, v8, v9, v10, .ref b, v12]) := zpfd_g rfl rfl
theorem zp_1_11n : zpfd (1, [v0, v1, v2, v3, v4, v5, v6, v7, v8, v9, v10, v11, v12]) 1 11 4 .null Kc = Kc (1, [v0, v1, v2, v3, v4, v5, v6, v7, v8, v9, v10, .null, v12]) := zpfd_g rfl rfl
theorem zf_1_12 : zfld (1, [v0, v1, v2, v3, v4, v5, v6, v7, v8, v9, v10, v11, v12]) 1 12 K = K v12 := zfld_b rfl
theorem zp_1_12 : zpfd (1, [v0, v1, v2, v3, v4, v5, v6, v7, v8, v9, v10, v11, v12]) 1 12 4 (.ref b) Kc = Kc (1, [v0, v1, v2, v3, v4, v5, v6, v7, v8, v9, v10, v11, .ref b]) := zpfd_g rfl rfl
theorem zp_1_12n : zpfd (1, [v0, v1, v2, v3, v4, v5, v6, v7, v8, v9, v10, v11, v12]) 1 12 4 .null Kc = Kc (1, [v0, v1, v2, v3, v4, v5, v6, v7, v8, v9, v10, v11, .null]) := zpfd_g rfl rfl
theorem zrc_2 {X : zR} : zrc (2, [v0, v1, v2, v3]) 2 X = X := zrc_k
theorem zf_2_0 : zfld (2, [v0, v1, v2, v3]) 2 0 K = K v0 := zfld_b rfl
theorem zp_2_0 : zpfd (2, [v0, v1, v2, v3]) 2 0 4 (.ref b) Kc = Kc (2, [.ref b, v1, v2, v3]) := zpfd_g rfl rfl
theorem zp_2_0n : zpfd (2, [v0, v1, v2, v3]) 2 0 4 .null Kc = Kc (2, [.null, v1, v2, v3]) := zpfd_g rfl rfl
theorem zf_2_1 : zfld (2, [v0, v1, v2, v3]) 2 1 K = K v1 := zfld_b rfl
theorem zp_2_10 : zpfd (2, [v0, v1, v2, v3]) 2 1 6 (.int 0) Kc = Kc (2, [v0, .int 0, v2, v3]) := zpfd_g rfl rfl
theorem zp_2_11 : zpfd (2, [v0, v1, v2, v3]) 2 1 6 (.int (nI 1)) Kc = Kc (2, [v0, .int (nI 1), v2, v3]) := zpfd_g rfl rfl
theorem zf_2_2 : zfld (2, [v0, v1, v2, v3]) 2 2 K = K v2 := zfld_b rfl
theorem zp_2_20 : zpfd (2, [v0, v1, v2, v3]) 2 2 5 (.int 0) Kc = Kc (2, [v0, v1, .int 0, v3]) := zpfd_g rfl rfl
theorem zp_2_21 : zpfd (2, [v0, v1, v2, v3]) 2 2 5 (.int (nI 1)) Kc = Kc (2, [v0, v1, .int (nI 1), v3]) := zpfd_g rfl rfl
theorem zf_2_3 : zfld (2, [v0, v1, v2, v3]) 2 3 K = K v3 := zfld_b rfl
theorem zp_2_3 : zpfd (2, [v0, v1, v2, v3]) 2 3 0 (.int x) Kc = Kc (2, [v0, v1, v2, .int x]) := zpfd_g rfl rfl
theorem zrc_3 {X : zR} : zrc (3, [v0, v1, v2, v3, v4]) 3 X = X := zrc_k
theorem zf_3_0 : zfld (3, [v0, v1, v2, v3, v4]) 3 0 K = K v0 := zfld_b rfl
theorem zp_3_0 : zpfd (3, [v0, v1, v2, v3, v4]) 3 0 4 (.ref b) Kc = Kc (3, [.ref b, v1, v2, v3, v4]) := zpfd_g rfl rfl
theorem zp_3_0n : zpfd (3, [v0, v1, v2, v3, v4]) 3 0 4 .null Kc = Kc (3, [.null, v1, v2, v3, v4]) := zpfd_g rfl rfl
theorem zf_3_1 : zfld (3, [v0, v1, v2, v3, v4]) 3 1 K = K v1 := zfld_b rfl
theorem zp_3_1 : zpfd (3, [v0, v1, v2, v3, v4]) 3 1 0 (.int x) Kc = Kc (3, [v0, .int x, v2, v3, v4]) := zpfd_g rfl rfl
theorem zf_3_2 : zfld (3, [v0, v1, v2, v3, v4]) 3 2 K = K v2 := zfld_b rfl
theorem zp_3_2 : zpfd (3, [v0, v1, v2, v3, v4]) 3 2 4 (.ref b) Kc = Kc (3, [v0, v1, .ref b, v3, v4]) := zpfd_g rfl rfl
theorem zp_3_2n : zpfd (3, [v0, v1, v2, v3, v4]) 3 2 4 .null Kc = Kc (3, [v0, v1, .null, v3, v4]) := zpfd_g rfl rfl
theorem zf_3_3 : zfld (3, [v0, v1, v2, v3, v4]) 3 3 K = K v3 := zfld_b rfl
theorem zp_3_3 : zpfd (3, [v0, v1, v2, v3, v4]) 3 3 0 (.int x) Kc = Kc (3, [v0, v1, v2, .int x, v4]) := zpfd_g rfl rfl
theorem zf_3_4 : zfld (3, [v0, v1, v2, v3, v4]) 3 4 K = K v4 := zfld_b rfl
theorem zp_3_4 : zpfd (3, [v0, v1, v2, v3, v4]) 3 4 0 (.int x) Kc = Kc (3, [v0, v1, v2, v3, .int x]) := zpfd_g rfl rfl
theorem zrc_4 {X : zR} : zrc (4, [v0]) 4 X = X := zrc_k
theorem zf_4_0 : zfld (4, [v0]) 4 0 K = K v0 := zfld_b rfl
theorem zp_4_0 : zpfd (4, [v0]) 4 0 4 (.ref b) Kc = Kc (4, [.ref b]) := zpfd_g rfl rfl
theorem zp_4_0n : zpfd (4, [v0]) 4 0 4 .null Kc = Kc (4, [.null]) := zpfd_g rfl rfl
theorem zrc_5 {X : zR} : zrc (5, [v0, v1, v2]) 5 X = X := zrc_k
theorem zf_5_0 : zfld (5, [v0, v1, v2]) 5 0 K = K v0 := zfld_b rfl
theorem zp_5_0 : zpfd (5, [v0, v1, v2]) 5 0 4 (.ref b) Kc = Kc (5, [.ref b, v1, v2]) := zpfd_g rfl rfl
theorem zp_5_0n : zpfd (5, [v0, v1, v2]) 5 0 4 .null Kc = Kc (5, [.null, v1, v2]) := zpfd_g rfl rfl
theorem zf_5_1 : zfld (5, [v0, v1, v2]) 5 1 K = K v1 := zfld_b rfl
theorem zp_5_1 : zpfd (5, [v0, v1, v2]) 5 1 0 (.int x) Kc = Kc (5, [v0, .int x, v2]) := zpfd_g rfl rfl
theorem zf_5_2 : zfld (5, [v0, v1, v2]) 5 2 K = K v2 := zfld_b rfl
theorem zp_5_2 : zpfd (5, [v0, v1, v2]) 5 2 0 (.int x) Kc = Kc (5, [v0, v1, .int x]) := zpfd_g rfl rfl
theorem zrc_6 {X : zR} : zrc (6, [v0, v1, v2, v3, v4, v5]) 6 X = X := zrc_k
theorem zf_6_0 : zfld (6, [v0, v1, v2, v3, v4, v5]) 6 0 K = K v0 := zfld_b rfl
theorem zp_6_0 : zpfd (6, [v0, v1, v2, v3, v4, v5]) 6 0 4 (.ref b) Kc = Kc (6, [.ref b, v1, v2, v3, v4, v5]) := zpfd_g rfl rfl
theorem zp_6_0n : zpfd (6, [v0, v1, v2, v3, v4, v5]) 6 0 4 .null Kc = Kc (6, [.null, v1, v2, v3, v4, v5]) := zpfd_g rfl rfl
theorem zf_6_1 : zfld (6, [v0, v1, v2, v3, v4, v5]) 6 1 K = K v1 := zfld_b rfl
theorem zp_6_1 : zpfd (6, [v0, v1, v2, v3, v4, v5]) 6 1 4 (.ref b) Kc = Kc (6, [v0, .ref b, v2, v3, v4, v5]) := zpfd_g rfl rfl
theorem zp_6_1n : zpfd (6, [v0, v1, v2, v3, v4, v5]) 6 1 4 .null Kc = Kc (6, [v0, .null, v2, v3, v4, v5]) := zpfd_g rfl rfl
theorem zf_6_2 : zfld (6, [v0, v1, v2, v3, v4, v5]) 6 2 K = K v2 := zfld_b rfl
theorem zp_6_2 : zpfd (6, [v0, v1, v2, v3, v4, v5]) 6 2 4 (.ref b) Kc = Kc (6, [v0, v1, .ref b, v3, v4, v5]) := zpfd_g rfl rfl
theorem zp_6_2n : zpfd (6, [v0, v1, v2, v3, v4, v5]) 6 2 4 .null Kc = Kc (6, [v0, v1, .null, v3, v4, v5]) := zpfd_g rfl rfl
theorem zf_6_3 : zfld (6, [v0, v1, v2, v3, v4, v5]) 6 3 K = K v3 := zfld_b rfl
theorem zp_6_3 : zpfd (6, [v0, v1, v2, v3, v4, v5]) 6 3 4 (.ref b) Kc = Kc (6, [v0, v1, v2, .ref b, v4, v5]) := zpfd_g rfl rfl
theorem zp_6_3n : zpfd (6, [v0, v1, v2, v3, v4, v5]) 6 3 4 .null Kc = Kc (6, [v0, v1, v2, .null, v4, v5]) := zpfd_g rfl rfl
theorem zf_6_4 : zfld (6, [v0, v1, v2, v3, v4, v5]) 6 4 K = K v4 := zfld_b rfl
theorem zp_6_4 : zpfd (6, [v0, v1, v2, v3, v4, v5]) 6 4 0 (.int x) Kc = Kc (6, [v0, v1, v2, v3, .int x, v5]) := zpfd_g rfl rfl
theorem zf_6_5 : zfld (6, [v0, v1, v2, v3, v4, v5]) 6 5 K = K v5 := zfld_b rfl
theorem zp_6_5 : zpfd (6, [v0, v1, v2, v3, v4, v5]) 6 5 0 (.int x) Kc = Kc (6, [v0, v1, v2, v3, v4, .int x]) := zpfd_g rfl rfl
theorem zrc_7 {X : zR} : zrc (7, [v0, v1, v2]) 7 X = X := zrc_k
theorem zf_7_0 : zfld (7, [v0, v1, v2]) 7 0 K = K v0 := zfld_b rfl
theorem zp_7_0 : zpfd (7, [v0, v1, v2]) 7 0 4 (.ref b) Kc = Kc (7, [.ref b, v1, v2]) := zpfd_g rfl rfl
theorem zp_7_0n : zpfd (7, [v0, v1, v2]) 7 0 4 .null Kc = Kc (7, [.null, v1, v2]) := zpfd_g rfl rfl
theorem zf_7_1 : zfld (7, [v0, v1, v2]) 7 1 K = K v1 := zfld_b rfl
theorem zp_7_1 : zpfd (7, [v0, v1, v2]) 7 1 4 (.ref b) Kc = Kc (7, [v0, .ref b, v2]) := zpfd_g rfl rfl
theorem zp_7_1n : zpfd (7, [v0, v1, v2]) 7 1 4 .null Kc = Kc (7, [v0, .null, v2]) := zpfd_g rfl rfl
theorem zf_7_2 : zfld (7, [v0, v1, v2]) 7 2 K = K v2 := zfld_b rfl
theorem zp_7_2 : zpfd (7, [v0, v1, v2]) 7 2 0 (.int x) Kc = Kc (7, [v0, v1, .int x]) := zpfd_g rfl rfl
theorem zrc_8 {X : zR} : zrc (8, [v0, v1]) 8 X = X := zrc_k
theorem zf_8_0 : zfld (8, [v0, v1]) 8 0 K = K v0 := zfld_b rfl
theorem zp_8_0 : zpfd (8, [v0, v1]) 8 0 4 (.ref b) Kc = Kc (8, [.ref b, v1]) := zpfd_g rfl rfl
theorem zp_8_0n : zpfd (8, [v0, v1]) 8 0 4 .null Kc = Kc (8, [.null, v1]) := zpfd_g rfl rfl
theorem zf_8_1 : zfld (8, [v0, v1]) 8 1 K = K v1 := zfld_b rfl
theorem zp_8_1 : zpfd (8, [v0, v1]) 8 1 0 (.int x) Kc = Kc (8, [v0, .int x]) := zpfd_g rfl rfl
theorem zrc_9 {X : zR} : zrc (9, [v0]) 9 X = X := zrc_k
theorem zf_9_0 : zfld (9, [v0]) 9 0 K = K v0 := zfld_b rfl
theorem zp_9_0 : zpfd (9, [v0]) 9 0 4 (.ref b) Kc = Kc (9, [.ref b]) := zpfd_g rfl rfl
theorem zp_9_0n : zpfd (9, [v0]) 9 0 4 .null Kc = Kc (9, [.null]) := zpfd_g rfl rfl
theorem zrc_10 {X : zR} : zrc (10, [v0, v1, v2]) 10 X = X := zrc_k
theorem zf_10_0 : zfld (10, [v0, v1, v2]) 10 0 K = K v0 := zfld_b rfl
theorem zp_10_0 : zpfd (10, [v0, v1, v2]) 10 0 4 (.ref b) Kc = Kc (10, [.ref b, v1, v2]) := zpfd_g rfl rfl
theorem zp_10_0n : zpfd (10, [v0, v1, v2]) 10 0 4 .null Kc = Kc (10, [.null, v1, v2]) := zpfd_g rfl rfl
theorem zf_10_1 : zfld (10, [v0, v1, v2]) 10 1 K = K v1 := zfld_b rfl
theorem zp_10_1 : zpfd (10, [v0, v1, v2]) 10 1 4 (.ref b) Kc = Kc (10, [v0, .ref b, v2]) := zpfd_g rfl rfl
theorem zp_10_1n : zpfd (10, [v0, v1, v2]) 10 1 4 .null Kc = Kc (10, [v0, .null, v2]) := zpfd_g rfl rfl
theorem zf_10_2 : zfld (10, [v0, v1, v2]) 10 2 K = K v2 := zfld_b rfl
theorem zp_10_2 : zpfd (10, [v0, v1, v2]) 10 2 4 (.ref b) Kc = Kc (10, [v0, v1, .ref b]) := zpfd_g rfl rfl
theorem zp_10_2n : zpfd (10, [v0, v1, v2]) 10 2 4 .null Kc = Kc (10, [v0, v1, .null]) := zpfd_g rfl rfl
theorem zrc_11 {X : zR} : zrc (11, [v0, v1]) 11 X = X := zrc_k
theorem zf_11_0 : zfld (11, [v0, v1]) 11 0 K = K v0 := zfld_b rfl
theorem zp_11_0 : zpfd (11, [v0, v1]) 11 0 4 (.ref b) Kc = Kc (11, [.ref b, v1]) := zpfd_g rfl rfl
theorem zp_11_0n : zpfd (11, [v0, v1]) 11 0 4 .null Kc = Kc (11, [.null, v1]) := zpfd_g rfl rfl
theorem zf_11_1 : zfld (11, [v0, v1]) 11 1 K = K v1 := zfld_b rfl
theorem zp_11_1 : zpfd (11, [v0, v1]) 11 1 4 (.ref b) Kc = Kc (11, [v0, .ref b]) := zpfd_g rfl rfl
theorem zp_11_1n : zpfd (11, [v0, v1]) 11 1 4 .null Kc = Kc (11, [v0, .null]) := zpfd_g rfl rfl
theorem zrc_12 {X : zR} : zrc (12, [v0, v1, v2, v3, v4, v5, v6, v7, v8, v9]) 12 X = X := zrc_k
theorem zf_12_0 : zfld (12, [v0, v1, v2, v3, v4, v5, v6, v7, v8, v9]) 12 0 K = K v0 := zfld_b rfl
theorem zp_12_0 : zpfd (12, [v0, v1, v2, v3, v4, v5, v6, v7, v8, v9]) 12 0 4 (.ref b) Kc = Kc (12, [.ref b, v1, v2, v3, v4, v5, v6, v7, v8, v9]) := zpfd_g rfl rfl
theorem zp_12_0n : zpfd (12, [v0, v1, v2, v3, v4, v5, v6, v7, v8, v9]) 12 0 4 .null Kc = Kc (12, [.null, v1, v2, v3, v4, v5, v6, v7, v8, v9]) := zpfd_g rfl rfl
theorem zf_12_1 : zfld (12, [v0, v1, v2, v3, v4, v5, v6, v7, v8, v9]) 12 1 K = K v1 := zfld_b rfl
theorem zp_12_1 : zpfd (12, [v0, v1, v2, v3, v4, v5, v6, v7, v8, v9]) 12 1 4 (.ref b) Kc = Kc (12, [v0, .ref b, v2, v3, v4, v5, v6, v7, v8, v9]) := zpfd_g rfl rfl
theorem zp_12_1n : zpfd (12, [v0, v1, v2, v3, v4, v5, v6, v7, v8, v9]) 12 1 4 .null Kc = Kc (12, [v0, .null, v2, v3, v4, v5, v6, v7, v8, v9]) := zpfd_g rfl rfl
theorem zf_12_2 : zfld (12, [v0, v1, v2, v3, v4, v5, v6, v7, v8, v9]) 12 2 K = K v2 := zfld_b rfl
theorem zp_12_2 : zpfd (12, [v0, v1, v2, v3, v4, v5, v6, v7, v8, v9]) 12 2 4 (.ref b) Kc = Kc (12, [v0, v1, .ref b, v3, v4, v5, v6, v7, v8, v9]) := zpfd_g rfl rfl
theorem zp_12_2n : zpfd (12, [v0, v1, v2, v3, v4, v5, v6, v7, v8, v9]) 12 2 4 .null Kc = Kc (12, [v0, v1, .null, v3, v4, v5, v6, v7, v8, v9]) := zpfd_g rfl rfl
theorem zf_12_3 : zfld (12, [v0, v1, v2, v3, v4, v5, v6, v7, v8, v9]) 12 3 K = K v3 := zfld_b rfl
theorem zp_12_3 : zpfd (12, [v0, v1, v2, v3, v4, v5, v6, v7, v8, v9]) 12 3 4 (.ref b) Kc = Kc (12, [v0, v1, v2, .ref b, v4, v5, v6, v7, v8, v9]) := zpfd_g rfl rfl
theorem zp_12_3n : zpfd (12, [v0, v1, v2, v3, v4, v5, v6, v7, v8, v9]) 12 3 4 .null Kc = Kc (12, [v0, v1, v2, .null, v4, v5, v6, v7, v8, v9]) := zpfd_g rfl rfl
theorem zf_12_4 : zfld (12, [v0, v1, v2, v3, v4, v5, v6, v7, v8, v9]) 12 4 K = K v4 := zfld_b rfl
theorem zp_12_4 : zpfd (12, [v0, v1, v2, v3, v4, v5, v6, v7, v8, v9]) 12 4 4 (.ref b) Kc = Kc (12, [v0, v1, v2, v3, .ref b, v5, v6, v7, v8, v9]) := zpfd_g rfl rfl
theorem zp_12_4n : zpfd (12, [v0, v1, v2, v3, v4, v5, v6, v7, v8, v9]) 12 4 4 .null Kc = Kc (12, [v0, v1, v2, v3, .null, v5, v6, v7, v8, v9]) := zpfd_g rfl rfl
theorem zf_12_5 : zfld (12, [v0, v1, v2, v3, v4, v5, v6, v7, v8, v9]) 12 5 K = K v5 := zfld_b rfl
theorem zp_12_5 : zpfd (12, [v0, v1, v2, v3, v4, v5, v6, v7, v8, v9]) 12 5 0 (.int x) Kc = Kc (12, [v0, v1, v2, v3, v4, .int x, v6, v7, v8, v9]) := zpfd_g rfl rfl
theorem zf_12_6 : zfld (12, [v0, v1, v2, v3, v4, v5, v6, v7, v8, v9]) 12 6 K = K v6 := zfld_b rfl
theorem zp_12_6 : zpfd (12, [v0, v1, v2, v3, v4, v5, v6, v7, v8, v9]) 12 6 4 (.ref b) Kc = Kc (12, [v0, v1, v2, v3, v4, v5, .ref b, v7, v8, v9]) := zpfd_g rfl rfl
theorem zp_12_6n : zpfd (12, [v0, v1, v2, v3, v4, v5, v6, v7, v8, v9]) 12 6 4 .null Kc = Kc (12, [v0, v1, v2, v3, v4, v5, .null, v7, v8, v9]) := zpfd_g rfl rfl
theorem zf_12_7 : zfld (12, [v0, v1, v2, v3, v4, v5, v6, v7, v8, v9]) 12 7 K = K v7 := zfld_b rfl
theorem zp_12_7 : zpfd (12, [v0, v1, v2, v3, v4, v5, v6, v7, v8, v9]) 12 7 4 (.ref b) Kc = Kc (12, [v0, v1, v2, v3, v4, v5, v6, .ref b, v8, v9]) := zpfd_g rfl rfl
theorem zp_12_7n : zpfd (12, [v0, v1, v2, v3, v4, v5, v6, v7, v8, v9]) 12 7 4 .null Kc = Kc (12, [v0, v1, v2, v3, v4, v5, v6, .null, v8, v9]) := zpfd_g rfl rfl
theorem zf_12_8 : zfld (12, [v0, v1, v2, v3, v4, v5, v6, v7, v8, v9]) 12 8 K = K v8 := zfld_b rfl
theorem zp_12_8 : zpfd (12, [v0, v1, v2, v3, v4, v5, v6, v7, v8, v9]) 12 8 4 (.ref b) Kc = Kc (12, [v0, v1, v2, v3, v4, v5, v6, v7, .ref b, v9]) := zpfd_g rfl rfl
theorem zp_12_8n : zpfd (12, [v0, v1, v2, v3, v4, v5, v6, v7, v8, v9]) 12 8 4 .null Kc = Kc (12, [v0, v1, v2, v3, v4, v5, v6, v7, .null, v9]) := zpfd_g rfl rfl
theorem zf_12_9 : zfld (12, [v0, v1, v2, v3, v4, v5, v6, v7, v8, v9]) 12 9 K = K v9 := zfld_b rfl
theorem zp_12_9 : zpfd (12, [v0, v1, v2, v3, v4, v5, v6, v7, v8, v9]) 12 9 0 (.int x) Kc = Kc (12, [v0, v1, v2, v3, v4, v5, v6, v7, v8, .int x]) := zpfd_g rfl rfl
theorem zrc_13 {X : zR} : zrc (13, [v0, v1, v2, v3, v4, v5, v6, v7, v8, v9, v10, v11, v12, v13, v14, v15, v16, v17, v18, v19, v20, v21, v22, v23, v24, v25, v26, v27, v28, v29, v30, v31]) 13 X = X := zrc_k
theorem zf_13_0 : zfld (13, [v0, v1, v2, v3, v4, v5, v6, v7, v8, v9, v10, v11, v12, v13, v14, v15, v16, v17, v18, v19, v20, v21, v22, v23, v24, v25, v26, v27, v28, v29, v30, v31]) 13 0 K = K v0 := zfld_b rfl
theorem zp_13_0 : zpfd (13, [v0, v1, v2, v3, v4, v5, v6, v7, v8, v9, v10, v11, v12, v13, v14, v15, v16, v17, v18, v19, v20, v21, v22, v23, v24, v25, v26, v27, v28, v29, v30, v31]) 13 0 4 (.ref b) Kc = Kc (13, [.ref b, v1, v2, v3, v4, v5, v6, v7, v8, v9, v10, v11, v12, v13, v14, v15, v16, v17, v18, v19, v20, v21, v22, v23, v24, v25, v26, v27, v28, v29, v30, v31]) := zpfd_g rfl rfl
theorem zp_13_0n : zpfd (13, [v0, v1, v2, v3, v4, v5, v6, v7, v8, v9, v10, v11, v12, v13, v14, v15, v16, v17, v18, v19, v20, v21, v22, v23, v24, v25, v26, v27, v28, v29, v30, v31]) 13 0 4 .null Kc = Kc (13, [.null, v1, v2, v3, v4, v5, v6, v7, v8, v9, v10, v11, v12, v13, v14, v15, v16, v17, v18, v19, v20, v21, v22, v23, v24, v25, v26, v27, v28, v29, v30, v31]) := zpfd_g rfl rfl
theorem zf_13_1 : zfld (13, [v0, v1, v2, v3, v4, v5, v6, v7, v8, v9, v10, v11, v12, v13, v14, v15, v16, v17, v18, v19, v20, v21, v22, v23, v24, v25, v26, v27, v28, v29, v30, v31]) 13 1 K = K v1 := zfld_b rfl
theorem zp_13_1 : zpfd (13, [v0, v1, v2, v3, v4, v5, v6, v7, v8, v9, v10, v11, v12, v13, v14, v15, v16, v17, v18, v19, v20, v21, v22, v23, v24, v25, v26, v27, v28, v29, v30, v31]) 13 1 4 (.ref b) Kc = Kc (13, [v0, .ref b, v2, v3, v4, v5, v6, v7, v8, v9, v10, v11, v12, v13, v14, v15, v16, v17, v18, v19, v20, v21, v22, v23, v24, v25, v26, v27, v28, v29, v30, v31]) := zpfd_g rfl rfl
theorem zp_13_1n : zpfd (13, [v0, v1, v2, v3, v4, v5, v6, v7, v8, v9, v10, v11, v12, v13, v14, v15, v16, v17, v18, v19, v20, v21, v22, v23, v24, v25, v26, v27, v28, v29, v30, v31]) 13 1 4 .null Kc = Kc (13, [v0, .null, v2, v3, v4, v5, v6, v7, v8, v9, v10, v11, v12, v13, v14, v15, v16, v17, v18, v19, v20, v21, v22, v23, v24, v25, v26, v27, v28, v29, v30, v31]) := zpfd_g rfl rfl
theorem zf_13_2 : zfld (13, [v0, v1, v2, v3, v4, v5, v6, v7, v8, v9, v10, v11, v12, v13, v14, v15, v16, v17, v18, v19, v20, v21, v22, v23, v24, v25, v26, v27, v28, v29, v30, v31]) 13 2 K = K v2 := zfld_b rfl
theorem zp_13_2 : zpfd (13, [v0, v1, v2, v3, v4, v5, v6, v7, v8, v9, v10, v11, v12, v13, v14, v15, v16, v17, v18, v19, v20, v21, v22, v23, v24, v25, v26, v27, v28, v29, v30, v31]) 13 2 4 (.ref b) Kc = Kc (13, [v0, v1, .ref b, v3, v4, v5, v6, v7, v8, v9, v10, v11, v12, v13, v14, v15, v16, v17, v18, v19, v20, v21, v22, v23, v24, v25, v26, v27, v28, v29, v30, v31]) := zpfd_g rfl rfl
theorem zp_13_2n : zpfd (13, [v0, v1, v2, v3, v4, v5, v6, v7, v8, v9, v10, v11, v12, v13, v14, v15, v16, v17, v18, v19, v20, v21, v22, v23, v24, v25, v26, v27, v28, v29, v30, v31]) 13 2 4 .null Kc = Kc (13, [v0, v1, .null, v3, v4, v5, v6, v7, v8, v9, v10, v11, v12, v13, v14, v15, v16, v17, v18, v19, v20, v21, v22, v23, v24, v25, v26, v27, v28, v29, v30, v31]) := zpfd_g rfl rfl
theorem zf_13_3 : zfld (13, [v0, v1, v2, v3, v4, v5, v6, v7, v8, v9, v10, v11, v12, v13, v14, v15, v16, v17, v18, v19, v20, v21, v22, v23, v24, v25, v26, v27, v28, v29, v30, v31]) 13 3 K = K v3 := zfld_b rfl
theorem zp_13_3 : zpfd (13, [v0, v1, v2, v3, v4, v5, v6, v7, v8, v9, v10, v11, v12, v13, v14, v15, v16, v17, v18, v19, v20, v21, v22, v23, v24, v25, v26, v27, v28, v29, v30, v31]) 13 3 0 (.int x) Kc = Kc (13, [v0, v1, v2, .int x, v4, v5, v6, v7, v8, v9, v10, v11, v12, v13, v14, v15, v16, v17, v18, v19, v20, v21, v22, v23, v24, v25, v26, v27, v28, v29, v30, v31]) := zpfd_g rfl rfl
theorem zf_13_4 : zfld (13, [v0, v1, v2, v3, v4, v5, v6, v7, v8, v9, v10, v11, v12, v13, v14, v15, v16, v17, v18, v19, v20, v21, v22, v23, v24, v25, v26, v27, v28, v29, v30, v31]) 13 4 K = K v4 := zfld_b rfl
theorem zp_13_4 : zpfd (13, [v0, v1, v2, v3, v4, v5, v6, v7, v8, v9, v10, v11, v12, v13, v14, v15, v16, v17, v18, v19, v20, v21, v22, v23, v24, v25, v26, v27, v28, v29, v30, v31]) 13 4 4 (.ref b) Kc = Kc (13, [v0, v1, v2, v3, .ref b, v5, v6, v7, v8, v9, v10, v11, v12, v13, v14, v15, v16, v17, v18, v19, v20, v21, v22, v23, v24, v25, v26, v27, v28, v29, v30, v31]) := zpfd_g rfl rfl
theorem zp_13_4n : zpfd (13, [v0, v1, v2, v3, v4, v5, v6, v7, v8, v9, v10, v11, v12, v13, v14, v15, v16, v17, v18, v19, v20, v21, v22, v23, v24, v25, v26, v27, v28, v29, v30, v31]) 13 4 4 .null Kc = Kc (13, [v0, v1, v2, v3, .null, v5, v6, v7, v8, v9, v10, v11, v12, v13, v14, v15, v16, v17, v18, v19, v20, v21, v22, v23, v24, v25, v26, v27, v28, v29, v30, v31]) := zpfd_g rfl rfl
theorem zf_13_5 : zfld (13, [v0, v1, v2, v3, v4, v5, v6, v7, v8, v9, v10, v11, v12, v13, v14, v15, v16, v17, v18, v19, v20, v21, v22, v23, v24, v25, v26, v27, v28, v29, v30, v31]) 13 5 K = K v5 := zfld_b rfl
theorem zp_13_50 : zpfd (13, [v0, v1, v2, v3, v4, v5, v6, v7, v8, v9, v10, v11, v12, v13, v14, v15, v16, v17, v18, v19, v20, v21, v22, v23, v24, v25, v26, v27, v28, v29, v30, v31]) 13 5 5 (.int 0) Kc = Kc (13, [v0, v1, v2, v3, v4, .int 0, v6, v7, v8, v9, v10, v11, v12, v13, v14, v15, v16, v17, v18, v19, v20, v21, v22, v23, v24, v25, v26, v27, v28, v29, v30, v31]) := zpfd_g rfl rfl
theorem zp_13_51 : zpfd (13, [v0, v1, v2, v3, v4, v5, v6, v7, v8, v9, v10, v11, v12, v13, v14, v15, v16, v17, v18, v19, v20, v21, v22, v23, v24, v25, v26, v27, v28, v29, v30, v31]) 13 5 5 (.int (nI 1)) Kc = Kc (13, [v0, v1, v2, v3, v4, .int (nI 1), v6, v7, v8, v9, v10, v11, v12, v13, v14, v15, v16, v17, v18, v19, v20, v21, v22, v23, v24, v25, v26, v27, v28, v29, v30, v31]) := zpfd_g rfl rfl
theorem zf_13_6 : zfld (13, [v0, v1, v2, v3, v4, v5, v6, v7, v8, v9, v10, v11, v12, v13, v14, v15, v16, v17, v18, v19, v20, v21, v22, v23, v24, v25, v26, v27, v28, v29, v30, v31]) 13 6 K = K v6 := zfld_b rfl
theorem zp_13_6 : zpfd (13, [v0, v1, v2, v3, v4, v5, v6, v7, v8, v9, v10, v11, v12, v13, v14, v15, v16, v17, v18, v19, v20, v21, v22, v23, v24, v25, v26, v27, v28, v29, v30, v31]) 13 6 4 (.ref b) Kc = Kc (13, [v0, v1, v2, v3, v4, v5, .ref b, v7, v8, v9, v10, v11, v12, v13, v14, v15, v16, v17, v18, v19, v20, v21, v22, v23, v24, v25, v26, v27, v28, v29, v30, v31]) := zpfd_g rfl rfl
theorem zp_13_6n : zpfd (13, [v0, v1, v2, v3, v4, v5, v6, v7, v8, v9, v10, v11, v12, v13, v14, v15, v16, v17, v18, v19, v20, v21, v22, v23, v24, v25, v26, v27, v28, v29, v30, v31]) 13 6 4 .null Kc = Kc (13, [v0, v1, v2, v3, v4, v5, .null, v7, v8, v9, v10, v11, v12, v13, v14, v15, v16, v17, v18, v19, v20, v21, v22, v23, v24, v25, v26, v27, v28, v29, v30, v31]) := zpfd_g rfl rfl
theorem zf_13_7 : zfld (13, [v0, v1, v2, v3, v4, v5, v6, v7, v8, v9, v10, v11, v12, v13, v14, v15, v16, v17, v18, v19, v20, v21, v22, v23, v24, v25, v26, v27, v28, v29, v30, v31]) 13 7 K = K v7 := zfld_b rfl
theorem zp_13_7 : zpfd (13, [v0, v1, v2, v3, v4, v5, v6, v7, v8, v9, v10, v11, v12, v13, v14, v15, v16, v17, v18, v19, v20, v21, v22, v23, v24, v25, v26, v27, v28, v29, v30, v31]) 13 7 4 (.ref b) Kc = Kc (13, [v0, v1, v2, v3, v4, v5, v6, .ref b, v8, v9, v10, v11, v12, v13, v14, v15, v16, v17, v18, v19, v20, v21, v22, v23, v24, v25, v26, v27, v28, v29, v30, v31]) := zpfd_g rfl rfl
theorem zp_13_7n : zpfd (13, [v0, v1, v2, v3, v4, v5, v6, v7, v8, v9, v10, v11, v12, v13, v14, v15, v16, v17, v18, v19, v20, v21, v22, v23, v24, v25, v26, v27, v28, v29, v30, v31]) 13 7 4 .null Kc = Kc (13, [v0, v1, v2, v3, v4, v5, v6, .null, v8, v9, v10, v11, v12, v13, v14, v15, v16, v17, v18, v19, v20, v21, v22, v23, v24, v25, v26, v27, v28, v29, v30, v31]) := zpfd_g rfl rfl
theorem zf_13_8 : zfld (13, [v0, v1, v2, v3, v4, v5, v6, v7, v8, v9, v10, v11, v12, v13, v14, v15, v16, v17, v18, v19, v20, v21, v22, v23, v24, v25, v26, v27, v28, v29, v30, v31]) 13 8 K = K v8 := zfld_b rfl
theorem zp_13_8 : zpfd (13, [v0, v1, v2, v3, v4, v5, v6, v7, v8, v9, v10, v11, v12, v13, v14, v15, v16, v17, v18, v19, v20, v21, v22, v23, v24, v25, v26, v27, v28, v29, v30, v31]) 13 8 0 (.int x) Kc = Kc (13, [v0, v1, v2, v3, v4, v5, v6, v7, .int x, v9, v10, v11, v12, v13, v14, v15, v16, v17, v18, v19, v20, v21, v22, v23, v24, v25, v26, v27, v28, v29, v30, v31]) := zpfd_g rfl rfl
theorem zf_13_9 : zfld (13, [v0, v1, v2, v3, v4, v5, v6, v7, v8, v9, v10, v11, v12, v13, v14, v15, v16, v17, v18, v19, v20, v21, v22, v23, v24, v25, v26, v27, v28, v29, v30, v31]) 13 9 K = K v9 := zfld_b rfl
theorem zp_13_9 : zpfd (13, [v0, v1, v2, v3, v4, v5, v6, v7, v8, v9, v10, v11, v12, v13, v14, v15, v16, v17, v18, v19, v20, v21, v22, v23, v24, v25, v26, v27, v28, v29, v30, v31]) 13 9 4 (.ref b) Kc = Kc (13, [v0, v1, v2, v3, v4, v5, v6, v7, v8, .ref b, v10, v11, v12, v13, v14, v15, v16, v17, v18, v19, v20, v21, v22, v23, v24, v25, v26, v27, v28, v29, v30, v31]) := zpfd_g rfl rfl
theorem zp_13_9n : zpfd (13, [v0, v1, v2, v3, v4, v5, v6, v7, v8, v9, v10, v11, v12, v13, v14, v15, v16, v17, v18, v19, v20, v21, v22, v23, v24, v25, v26, v27, v28, v29, v30, v31]) 13 9 4 .null Kc = Kc (13, [v0, v1, v2, v3, v4, v5, v6, v7, v8, .null, v10, v11, v12, v13, v14, v15, v16, v17, v18, v19, v20, v21, v22, v23, v24, v25, v26, v27, v28, v29, v30, v31]) := zpfd_g rfl rfl
theorem zf_13_10 : zfld (13, [v0, v1, v2, v3, v4, v5, v6, v7, v8, v9, v10, v11, v12, v13, v14, v15, v16, v17, v18, v19, v20, v21, v22, v23, v24, v25, v26, v27, v28, v29, v30, v31]) 13 10 K = K v10 := zfld_b rfl
theorem zp_13_10 : zpfd (13, [v0, v1, v2, v3, v4, v5, v6, v7, v8, v9, v10, v11, v12, v13, v14, v15, v16, v17, v18, v19, v20, v21, v22, v23, v24, v25, v26, v27, v28, v29, v30, v31]) 13 10 4 (.ref b) Kc = Kc (13, [v0, v1, v2, v3, v4, v5, v6, v7, v8, v9, .ref b, v11, v12, v13, v14, v15, v16, v17, v18, v19, v20, v21, v22, v23, v24, v25, v26, v27, v28, v29, v30, v31]) := zpfd_g rfl rfl
theorem zp_13_10n : zpfd (13, [v0, v1, v2, v3, v4, v5, v6, v7, v8, v9, v10, v11, v12, v13, v14, v15, v16, v17, v18, v19, v20, v21, v22, v23, v24, v25, v26, v27, v28, v29, v30, v31]) 13 10 4 .null Kc = Kc (13, [v0, v1, v2, v3, v4, v5, v6, v7, v8, v9, .null, v11, v12, v13, v14, v15, v16, v17, v18, v19, v20, v21, v22, v23, v24, v25, v26, v27, v28, v29, v30, v31]) := zpfd_g rfl rfl
theorem zf_13_11 : zfld (13, [v0, v1, v2, v3, v4, v5, v6, v7, v8, v9, v10, v11, v12, v13, v14, v15, v16, v17, v18, v19, v20, v21, v22, v23, v24, v25, v26, v27, v28, v29, v30, v31]) 13 11 K = K v11 := zfld_b rfl
theorem zp_13_11 : zpfd (13, [v0, v1, v2, v3, v4, v5, v6, v7, v8, v9, v10, v11, v12, v13, v14, v15, v16, v17, v18, v19, v20, v21, v22, v23, v24, v25, v26, v27, v28, v29, v30, v31]) 13 11 0 (.int x) Kc = Kc (13, [v0, v1, v2, v3, v4, v5, v6, v7, v8, v9, v10, .int x, v12, v13, v14, v15, v16, v17, v18, v19, v20, v21, v22, v23, v24, v25, v26, v27, v28, v29, v30, v31]) := zpfd_g rfl rfl
theorem zf_13_12 : zfld (13, [v0, v1, v2, v3, v4, v5, v6, v7, v8, v9, v10, v11, v12, v13, v14, v15, v16, v17, v18, v19, v20, v21, v22, v23, v24, v25, v26, v27, v28, v29, v30, v31]) 13 12 K = K v12 := zfld_b rfl
theorem zp_13_12 : zpfd (13, [v0, v1, v2, v3, v4, v5, v6, v7, v8, v9, v10, v11, v12, v13, v14, v15, v16, v17, v18, v19, v20, v21, v22, v23, v24, v25, v26, v27, v28, v29, v30, v31]) 13 12 4 (.ref b) Kc = Kc (13, [v0, v1, v2, v3, v4, v5, v6, v7, v8, v9, v10, v11, .ref b, v13, v14, v15, v16, v17, v18, v19, v20, v21, v22, v23, v24, v25, v26, v27, v28, v29, v30, v31]) := zpfd_g rfl rfl
theorem zp_13_12n : zpfd (13, [v0, v1, v2, v3, v4, v5, v6, v7, v8, v9, v10, v11, v12, v13, v14, v15, v16, v17, v18, v19, v20, v21, v22, v23, v24, v25, v26, v27, v28, v29, v30, v31]) 13 12 4 .null Kc = Kc (13, [v0, v1, v2, v3, v4, v5, v6, v7, v8, v9, v10, v11, .null, v13, v14, v15, v16, v17, v18, v19, v20, v21, v22, v23, v24, v25, v26, v27, v28, v29, v30, v31]) := zpfd_g rfl rfl
theorem zf_13_13 : zfld (13, [v0, v1, v2, v3, v4, v5, v6, v7, v8, v9, v10, v11, v12, v13, v14, v15, v16, v17, v18, v19, v20, v21, v22, v23, v24, v25, v26, v27, v28, v29, v30, v31]) 13 13 K = K v13 := zfld_b rfl
theorem zp_13_13 : zpfd (13, [v0, v1, v2, v3, v4, v5, v6, v7, v8, v9, v10, v11, v12, v13, v14, v15, v16, v17, v18, v19, v20, v21, v22, v23, v24, v25, v26, v27, v28, v29, v30, v31]) 13 13 4 (.ref b) Kc = Kc (13, [v0, v1, v2, v3, v4, v5, v6, v7, v8, v9, v10, v11, v12, .ref b, v14, v15, v16, v17, v18, v19, v20, v21, v22, v23, v24, v25, v26, v27, v28, v29, v30, v31]) := zpfd_g rfl rfl
theorem zp_13_13n : zpfd (13, [v0, v1, v2, v3, v4, v5, v6, v7, v8, v9, v10, v11, v12, v13, v14, v15, v16, v17, v18, v19, v20, v21, v22, v23, v24, v25, v26, v27, v28, v29, v30, v31]) 13 13 4 .null Kc = Kc (13, [v0, v1, v2, v3, v4, v5, v6, v7, v8, v9, v10, v11, v12, .null, v14, v15, v16, v17, v18, v19, v20, v21, v22, v23, v24, v25, v26, v27, v28, v29, v30, v31]) := zpfd_g rfl rfl
theorem zf_13_14 : zfld (13, [v0, v1, v2, v3, v4, v5, v6, v7, v8, v9, v10, v11, v12, v13, v14, v15, v16, v17, v18, v19, v20, v21, v22, v23, v24, v25, v26, v27, v28, v29, v30, v31]) 13 14 K = K v14 := zfld_b rfl
theorem zp_13_14 : zpfd (13, [v0, v1, v2, v3, v4, v5, v6, v7, v8, v9, v10, v11, v12, v13, v14, v15, v16, v17, v18, v19, v20, v21, v22, v23, v24, v25, v26, v27, v28, v29, v30, v31]) 13 14 4 (.ref b) Kc = Kc (13, [v0, v1, v2, v3, v4, v5, v6, v7, v8, v9, v10, v11, v12, v13, .ref b, v15, v16, v17, v18, v19, v20, v21, v22, v23, v24, v25, v26, v27, v28, v29, v30, v31]) := zpfd_g rfl rfl
theorem zp_13_14n : zpfd (13, [v0, v1, v2, v3, v4, v5, v6, v7, v8, v9, v10, v11, v12, v13, v14, v15, v16, v17, v18, v19, v20, v21, v22, v23, v24, v25, v26, v27, v28, v29, v30, v31]) 13 14 4 .null Kc = Kc (13, [v0, v1, v2, v3, v4, v5, v6, v7, v8, v9, v10, v11, v12, v13, .null, v15, v16, v17, v18, v19, v20, v21, v22, v23, v24, v25, v26, v27, v28, v29, v30, v31]) := zpfd_g rfl rfl
theorem zf_13_15 : zfld (13, [v0, v1, v2, v3, v4, v5, v6, v7, v8, v9, v10, v11, v12, v13, v14, v15, v16, v17, v18, v19, v20, v21, v22, v23, v24, v25, v26, v27, v28, v29, v30, v31]) 13 15 K = K v15 := zfld_b rfl
theorem zp_13_15 : zpfd (13, [v0, v1, v2, v3, v4, v5, v6, v7, v8, v9, v10, v11, v12, v13, v14, v15, v16, v17, v18, v19, v20, v21, v22, v23, v24, v25, v26, v27, v28, v29, v30, v31]) 13 15 4 (.ref b) Kc = Kc (13, [v0, v1, v2, v3, v4, v5, v6, v7, v8, v9, v10, v11, v12, v13, v14, .ref b, v16, v17, v18, v19, v20, v21, v22, v23, v24, v25, v26, v27, v28, v29, v30, v31]) := zpfd_g rfl rfl
theorem zp_13_15n : zpfd (13, [v0, v1, v2, v3, v4, v5, v6, v7, v8, v9, v10, v11, v12, v13, v14, v15, v16, v17, v18, v19, v20, v21, v22, v23, v24, v25, v26, v27, v28, v29, v30, v31]) 13 15 4 .null Kc = Kc (13, [v0, v1, v2, v3, v4, v5, v6, v7, v8, v9, v10, v11, v12, v13, v14, .null, v16, v17, v18, v19, v20, v21, v22, v23, v24, v25, v26, v27, v28, v29, v30, v31]) := zpfd_g rfl rfl
theorem zf_13_16 : zfld (13, [v0, v1, v2, v3, v4, v5, v6, v7, v8, v9, v10, v11, v12, v13, v14, v15, v16, v17, v18, v19, v20, v21, v22, v23, v24, v25, v26, v27, v28, v29, v30, v31]) 13 16 K = K v16 := zfld_b rfl
theorem zp_13_16 : zpfd (13, [v0, v1, v2, v3, v4, v5, v6, v7, v8, v9, v10, v11, v12, v13, v14, v15, v16, v17, v18, v19, v20, v21, v22, v23, v24, v25, v26, v27, v28, v29, v30, v31]) 13 16 4 (.ref b) Kc = Kc (13, [v0, v1, v2, v3, v4, v5, v6, v7, v8, v9, v10, v11, v12, v13, v14, v15, .ref b, v17, v18, v19, v20, v21, v22, v23, v24, v25, v26, v27, v28, v29, v30, v31]) := zpfd_g rfl rfl
theorem zp_13_16n : zpfd (13, [v0, v1, v2, v3, v4, v5, v6, v7, v8, v9, v10, v11, v12, v13, v14, v15, v16, v17, v18, v19, v20, v21, v22, v23, v24, v25, v26, v27, v28, v29, v30, v31]) 13 16 4 .null Kc = Kc (13, [v0, v1, v2, v3, v4, v5, v6, v7, v8, v9, v10, v11, v12, v13, v14, v15, .null, v17, v18, v19, v20, v21, v22, v23, v24, v25, v26, v27, v28, v29, v30, v31]) := zpfd_g rfl rfl
theorem zf_13_17 : zfld (13, [v0, v1, v2, v3, v4, v5, v6, v7, v8, v9, v10, v11, v12, v13, v14, v15, v16, v17, v18, v19, v20, v21, v22, v23, v24, v25, v26, v27, v28, v29, v30, v31]) 13 17 K = K v17 := zfld_b rfl
theorem zp_13_17 : zpfd (13, [v0, v1, v2, v3, v4, v5, v6, v7, v8, v9, v10, v11, v12, v13, v14, v15, v16, v17, v18, v19, v20, v21, v22, v23, v24, v25, v26, v27, v28, v29, v30, v31]) 13 17 4 (.ref b) Kc = Kc (13, [v0, v1, v2, v3, v4, v5, v6, v7, v8, v9, v10, v11, v12, v13, v14, v15, v16, .ref b, v18, v19, v20, v21, v22, v23, v24, v25, v26, v27, v28, v29, v30, v31]) := zpfd_g rfl rfl
theorem zp_13_17n : zpfd (13, [v0, v1, v2, v3, v4, v5, v6, v7, v8, v9, v10, v11, v12, v13, v14, v15, v16, v17, v18, v19, v20, v21, v22, v23, v24, v25, v26, v27, v28, v29, v30, v31]) 13 17 4 .null Kc = Kc (13, [v0, v1, v2, v3, v4, v5, v6, v7, v8, v9, v10, v11, v12, v13, v14, v15, v16, .null, v18, v19, v20, v21, v22, v23, v24, v25, v26, v27, v28, v29, v30, v31]) := zpfd_g rfl rfl
theorem zf_13_18 : zfld (13, [v0, v1, v2, v3, v4, v5, v6, v7, v8, v9, v10, v11, v12, v13, v14, v15, v16, v17, v18, v19, v20, v21, v22, v23, v24, v25, v26, v27, v28, v29, v30, v31]) 13 18 K = K v18 := zfld_b rfl
theorem zp_13_18 : zpfd (13, [v0, v1, v2, v3, v4, v5, v6, v7, v8, v9, v10, v11, v12, v13, v14, v15, v16, v17, v18, v19, v20, v21, v22, v23, v24, v25, v26, v27, v28, v29, v30, v31]) 13 18 4 (.ref b) Kc = Kc (13, [v0, v1, v2, v3, v4, v5, v6, v7, v8, v9, v10, v11, v12, v13, v14, v15, v16, v17, .ref b, v19, v20, v21, v22, v23, v24, v25, v26, v27, v28, v29, v30, v31]) := zpfd_g rfl rfl
theorem zp_13_18n : zpfd (13, [v0, v1, v2, v3, v4, v5, v6, v7, v8, v9, v10, v11, v12, v13, v14, v15, v16, v17, v18, v19, v20, v21, v22, v23, v24, v25, v26, v27, v28, v29, v30, v31]) 13 18 4 .null Kc = Kc (13, [v0, v1, v2, v3, v4, v5, v6, v7, v8, v9, v10, v11, v12, v13, v14, v15, v16, v17, .null, v19, v20, v21, v22, v23, v24, v25, v26, v27, v28, v29, v30, v31]) := zpfd_g rfl rfl
theorem zf_13_19 : zfld (13, [v0, v1, v2, v3, v4, v5, v6, v7, v8, v9, v10, v11, v12, v13, v14, v15, v16, v17, v18, v19, v20, v21, v22, v23, v24, v25, v26, v27, v28, v29, v30, v31]) 13 19 K = K v19 := zfld_b rfl
theorem zp_13_19 : zpfd (13, [v0, v1, v2, v3, v4, v5, v6, v7, v8, v9, v10, v11, v12, v13, v14, v15, v16, v17, v18, v19, v20, v21, v22, v23, v24, v25, v26, v27, v28, v29, v30, v31]) 13 19 0 (.int x) Kc = Kc (13, [v0, v1, v2, v3, v4, v5, v6, v7, v8, v9, v10, v11, v12, v13, v14, v15, v16, v17, v18, .int x, v20, v21, v22, v23, v24, v25, v26, v27, v28, v29, v30, v31]) := zpfd_g rfl rfl
theorem zf_13_20 : zfld (13, [v0, v1, v2, v3, v4, v5, v6, v7, v8, v9, v10, v11, v12, v13, v14, v15, v16, v17, v18, v19, v20, v21, v22, v23, v24, v25, v26, v27, v28, v29, v30, v31]) 13 20 K = K v20 := zfld_b rfl
theorem zp_13_20 : zpfd (13, [v0, v1, v2, v3, v4, v5, v6, v7, v8, v9, v10, v11, v12, v13, v14, v15, v16, v17, v18, v19, v20, v21, v22, v23, v24, v25, v26, v27, v28, v29, v30, v31]) 13 20 0 (.int x) Kc = Kc (13, [v0, v1, v2, v3, v4, v5, v6, v7, v8, v9, v10, v11, v12, v13, v14, v15, v16, v17, v18, v19, .int x, v21, v22, v23, v24, v25, v26, v27, v28, v29, v30, v31]) := zpfd_g rfl rfl
theorem zf_13_21 : zfld (13, [v0, v1, v2, v3, v4, v5, v6, v7, v8, v9, v10, v11, v12, v13, v14, v15, v16, v17, v18, v19, v20, v21, v22, v23, v24, v25, v26, v27, v28, v29, v30, v31]) 13 21 K = K v21 := zfld_b rfl
theorem zp_13_21 : zpfd (13, [v0, v1, v2, v3, v4, v5, v6, v7, v8, v9, v10, v11, v12, v13, v14, v15, v16, v17, v18, v19, v20, v21, v22, v23, v24, v25, v26, v27, v28, v29, v30, v31]) 13 21 0 (.int x) Kc = Kc (13, [v0, v1, v2, v3, v4, v5, v6, v7, v8, v9, v10, v11, v12, v13, v14, v15, v16, v17, v18, v19, v20, .int x, v22, v23, v24, v25, v26, v27, v28, v29, v30, v31]) := zpfd_g rfl rfl
theorem zf_13_22 : zfld (13, [v0, v1, v2, v3, v4, v5, v6, v7, v8, v9, v10, v11, v12, v13, v14, v15, v16, v17, v18, v19, v20, v21, v22, v23, v24, v25, v26, v27, v28, v29, v30, v31]) 13 22 K = K v22 := zfld_b rfl
theorem zp_13_22 : zpfd (13, [v0, v1, v2, v3, v4, v5, v6, v7, v8, v9, v10, v11, v12, v13, v14, v15, v16, v17, v18, v19, v20, v21, v22, v23, v24, v25, v26, v27, v28, v29, v30, v31]) 13 22 0 (.int x) Kc = Kc (13, [v0, v1, v2, v3, v4, v5, v6, v7, v8, v9, v10, v11, v12, v13, v14, v15, v16, v17, v18, v19, v20, v21, .int x, v23, v24, v25, v26, v27, v28, v29, v30, v31]) := zpfd_g rfl rfl
theorem zf_13_23 : zfld (13, [v0, v1, v2, v3, v4, v5, v6, v7, v8, v9, v10, v11, v12, v13, v14, v15, v16, v17, v18, v19, v20, v21, v22, v23, v24, v25, v26, v27, v28, v29, v30, v31]) 13 23 K = K v23 := zfld_b rfl
theorem zp_13_23 : zpfd (13, [v0, v1, v2, v3, v4, v5, v6, v7, v8, v9, v10, v11, v12, v13, v14, v15, v16, v17, v18, v19, v20, v21, v22, v23, v24, v25, v26, v27, v28, v29, v30, v31]) 13 23 4 (.ref b) Kc = Kc (13, [v0, v1, v2, v3, v4, v5, v6, v7, v8, v9, v10, v11, v12, v13, v14, v15, v16, v17, v18, v19, v20, v21, v22, .ref b, v24, v25, v26, v27, v28, v29, v30, v31]) := zpfd_g rfl rfl
theorem zp_13_23n : zpfd (13, [v0, v1, v2, v3, v4, v5, v6, v7, v8, v9, v10, v11, v12, v13, v14, v15, v16, v17, v18, v19, v20, v21, v22, v23, v24, v25, v26, v27, v28, v29, v30, v31]) 13 23 4 .null Kc = Kc (13, [v0, v1, v2, v3, v4, v5, v6, v7, v8, v9, v10, v11, v12, v13, v14, v15, v16, v17, v18, v19, v20, v21, v22, .null, v24, v25, v26, v27, v28, v29, v30, v31]) := zpfd_g rfl rfl
theorem zf_13_24 : zfld (13, [v0, v1, v2, v3, v4, v5, v6, v7, v8, v9, v10, v11, v12, v13, v14, v15, v16, v17, v18, v19, v20, v21, v22, v23, v24, v25, v26, v27, v28, v29, v30, v31]) 13 24 K = K v24 := zfld_b rfl
theorem zp_13_24 : zpfd (13, [v0, v1, v2, v3, v4, v5, v6, v7, v8, v9, v10, v11, v12, v13, v14, v15, v16, v17, v18, v19, v20, v21, v22, v23, v24, v25, v26, v27, v28, v29, v30, v31]) 13 24 0 (.int x) Kc = Kc (13, [v0, v1, v2, v3, v4, v5, v6, v7, v8, v9, v10, v11, v12, v13, v14, v15, v16, v17, v18, v19, v20, v21, v22, v23, .int x, v25, v26, v27, v28, v29, v30, v31]) := zpfd_g rfl rfl
theorem zf_13_25 : zfld (13, [v0, v1, v2, v3, v4, v5, v6, v7, v8, v9, v10, v11, v12, v13, v14, v15, v16, v17, v18, v19, v20, v21, v22, v23, v24, v25, v26, v27, v28, v29, v30, v31]) 13 25 K = K v25 := zfld_b rfl
theorem zp_13_25 : zpfd (13, [v0, v1, v2, v3, v4, v5, v6, v7, v8, v9, v10, v11, v12, v13, v14, v15, v16, v17, v18, v19, v20, v21, v22, v23, v24, v25, v26, v27, v28, v29, v30, v31]) 13 25 4 (.ref b) Kc = Kc (13, [v0, v1, v2, v3, v4, v5, v6, v7, v8, v9, v10, v11, v12, v13, v14, v15, v16, v17, v18, v19, v20, v21, v22, v23, v24, .ref b, v26, v27, v28, v29, v30, v31]) := zpfd_g rfl rfl
theorem zp_13_25n : zpfd (13, [v0, v1, v2, v3, v4, v5, v6, v7, v8, v9, v10, v11, v12, v13, v14, v15, v16, v17, v18, v19, v20, v21, v22, v23, v24, v25, v26, v27, v28, v29, v30, v31]) 13 25 4 .null Kc = Kc (13, [v0, v1, v2, v3, v4, v5, v6, v7, v8, v9, v10, v11, v12, v13, v14, v15, v16, v17, v18, v19, v20, v21, v22, v23, v24, .null, v26, v27, v28, v29, v30, v31]) := zpfd_g rfl rfl
theorem zf_13_26 : zfld (13, [v0, v1, v2, v3, v4, v5, v6, v7, v8, v9, v10, v11, v12, v13, v14, v15, v16, v17, v18, v19, v20, v21, v22, v23, v24, v25, v26, v27, v28, v29, v30, v31]) 13 26 K = K v26 := zfld_b rfl
theorem zp_13_26 : zpfd (13, [v0, v1, v2, v3, v4, v5, v6, v7, v8, v9, v10, v11, v12, v13, v14, v15, v16, v17, v18, v19, v20, v21, v22, v23, v24, v25, v26, v27, v28, v29, v30, v31]) 13 26 0 (.int x) Kc = Kc (13, [v0, v1, v2, v3, v4, v5, v6, v7, v8, v9, v10, v11, v12, v13, v14, v15, v16, v17, v18, v19, v20, v21, v22, v23, v24, v25, .int x, v27, v28, v29, v30, v31]) := zpfd_g rfl rfl
theorem zf_13_27 : zfld (13, [v0, v1, v2, v3, v4, v5, v6, v7, v8, v9, v10, v11, v12, v13, v14, v15, v16, v17, v18, v19, v20, v21, v22, v23, v24, v25, v26, v27, v28, v29, v30, v31]) 13 27 K = K v27 := zfld_b rfl
theorem zp_13_27 : zpfd (13, [v0, v1, v2, v3, v4, v5, v6, v7, v8, v9, v10, v11, v12, v13, v14, v15, v16, v17, v18, v19, v20, v21, v22, v23, v24, v25, v26, v27, v28, v29, v30, v31]) 13 27 0 (.int x) Kc = Kc (13, [v0, v1, v2, v3, v4, v5, v6, v7, v8, v9, v10, v11, v12, v13, v14, v15, v16, v17, v18, v19, v20, v21, v22, v23, v24, v25, v26, .int x, v28, v29, v30, v31]) := zpfd_g rfl rfl
theorem zf_13_28 : zfld (13, [v0, v1, v2, v3, v4, v5, v6, v7, v8, v9, v10, v11, v12, v13, v14, v15, v16, v17, v18, v19, v20, v21, v22, v23, v24, v25, v26, v27, v28, v29, v30, v31]) 13 28 K = K v28 := zfld_b rfl
theorem zp_13_28 : zpfd (13, [v0, v1, v2, v3, v4, v5, v6, v7, v8, v9, v10, v11, v12, v13, v14, v15, v16, v17, v18, v19, v20, v21, v22, v23, v24, v25, v26, v27, v28, v29, v30, v31]) 13 28 0 (.int x) Kc = Kc (13, [v0, v1, v2, v3, v4, v5, v6, v7, v8, v9, v10, v11, v12, v13, v14, v15, v16, v17, v18, v19, v20, v21, v22, v23, v24, v25, v26, v27, .int x, v29, v30, v31]) := zpfd_g rfl rfl
theorem zf_13_29 : zfld (13, [v0, v1, v2, v3, v4, v5, v6, v7, v8, v9, v10, v11, v12, v13, v14, v15, v16, v17, v18, v19, v20, v21, v22, v23, v24, v25, v26, v27, v28, v29, v30, v31]) 13 29 K = K v29 := zfld_b rfl
theorem zp_13_29 : zpfd (13, [v0, v1, v2, v3, v4, v5, v6, v7, v8, v9, v10, v11, v12, v13, v14, v15, v16, v17, v18, v19, v20, v21, v22, v23, v24, v25, v26, v27, v28, v29, v30, v31]) 13 29 0 (.int x) Kc = Kc (13, [v0, v1, v2, v3, v4, v5, v6, v7, v8, v9, v10, v11, v12, v13, v14, v15, v16, v17, v18, v19, v20, v21, v22, v23, v24, v25, v26, v27, v28, .int x, v30, v31]) := zpfd_g rfl rfl
theorem zf_13_30 : zfld (13, [v0, v1, v2, v3, v4, v5, v6, v7, v8, v9, v10, v11, v12, v13, v14, v15, v16, v17, v18, v19, v20, v21, v22, v23, v24, v25, v26, v27, v28, v29, v30, v31]) 13 30 K = K v30 := zfld_b rfl
theorem zp_13_30 : zpfd (13, [v0, v1, v2, v3, v4, v5, v6, v7, v8, v9, v10, v11, v12, v13, v14, v15, v16, v17, v18, v19, v20, v21, v22, v23, v24, v25, v26, v27, v28, v29, v30, v31]) 13 30 0 (.int x) Kc = Kc (13, [v0, v1, v2, v3, v4, v5, v6, v7, v8, v9, v10, v11, v12, v13, v14, v15, v16, v17, v18, v19, v20, v21, v22, v23, v24, v25, v26, v27, v28, v29, .int x, v31]) := zpfd_g rfl rfl
theorem zf_13_31 : zfld (13, [v0, v1, v2, v3, v4, v5, v6, v7, v8, v9, v10, v11, v12, v13, v14, v15, v16, v17, v18, v19, v20, v21, v22, v23, v24, v25, v26, v27, v28, v29, v30, v31]) 13 31 K = K v31 := zfld_b rfl
theorem zp_13_31 : zpfd (13, [v0, v1, v2, v3, v4, v5, v6, v7, v8, v9, v10, v11, v12, v13, v14, v15, v16, v17, v18, v19, v20, v21, v22, v23, v24, v25, v26, v27, v28, v29, v30, v31]) 13 31 0 (.int x) Kc = Kc (13, [v0, v1, v2, v3, v4, v5, v6, v7, v8, v9, v10, v11, v12, v13, v14, v15, v16, v17, v18, v19, v20, v21, v22, v23, v24, v25, v26, v27, v28, v29, v30, .int x]) := zpfd_g rfl rfl
end ZFIELDS
