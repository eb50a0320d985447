section ZSK
variable {h : zH}
def yA0 : yA := ([], List.replicate 6 0, nI 2, 0)
def yS0 : yS := ([], List.replicate 6 0, nI 2, 0)
/-- what a new object stands for -/
def yw0 : yW := ([], -1, false, yA0, yA0, [], [])
theorem zRow_f {a n : Nat} (h1 : h.1 a = (4, [.ref (a + 1)])) (h2 : h.1 (a + 1) = (20, List.replicate n (.int 0))) (hn : n < 2 ^ 31) : zRow h a (List.replicate n 0) := ⟨h1, by rw [h2, List.map_replicate], by rw [List.length_replicate]; exact hn⟩
theorem zTre_f {t m : Nat} (c : h.1 t = (6, [.ref (t + 1), .ref (t + 3), .ref (t + 5), .ref (t + 7), .int (nI m), .int 0])) (r1 : zRow h (t + 1) (List.replicate m 0)) (r2 : zRow h (t + 3) (List.replicate m 0)) (r3 : zRow h (t + 5) (List.replicate m 0)) (r4 : zRow h (t + 7) (List.replicate m 0)) : zTre h t m [] :=
  ⟨_, _, _, _, by rw [c, ← nI_0]; rfl, ⟨r1, r2, r3, r4⟩, ⟨List.length_replicate, List.length_replicate, List.length_replicate, List.length_replicate, Nat.zero_le _⟩, rfl, rfl, rfl, rfl⟩
theorem zSta_f {s : Nat} (c : h.1 s = (3, [.ref (s + 1), .int 0, .ref (s + 2), .int (nI 2), .int 0])) (f : h.1 (s + 1) = (25, List.replicate 6 .null)) (r : zRow h (s + 2) (List.replicate 6 0)) : zSta h s yS0 :=
  ⟨by rw [c, ← nI_0]; rfl, ⟨_, f, rfl, fun j hj => by
    rcases (show j = 0 ∨ j = 1 ∨ j = 2 ∨ j = 3 ∨ j = 4 ∨ j = 5 by omega) with rfl | rfl | rfl | rfl | rfl | rfl <;> rfl⟩, r, rfl, Nat.zero_le _⟩
theorem yAok_0 : yAok yA0 := ⟨Nat.zero_le _, fun t ht => absurd ht List.not_mem_nil, rfl⟩
theorem zAS_0 {m : Nat} : zAS h m yS0 yA0 := ⟨rfl, ⟨rfl, fun i a t hi => (by cases hi)⟩, yAok_0⟩
variable {S : Nat}
set_option maxRecDepth 10000 in
theorem zfr_his : zHis (zext h (zC1 h.2.1) S) (h.2.1 + 11) [] := by
  refine ⟨0, by decide, by rw [zr0_11, nI_0]; show _ = ((5, [.ref _, .int 0, .int (nI 0)]) : zC); rw [nI_0], zr0_12, fun k hk => ⟨yS0, ?_⟩, fun j S2 hj => (by cases hj), Nat.zero_le _⟩
  rcases (show k = 0 ∨ k = 1 ∨ k = 2 ∨ k = 3 ∨ k = 4 ∨ k = 5 ∨ k = 6 ∨ k = 7 by omega) with rfl | rfl | rfl | rfl | rfl | rfl | rfl | rfl
  · exact (zSta_f (zr0_13 (h := h) (S := S)) (zr0_14 (h := h) (S := S)) (zRow_f (n := 6) (zr0_15 (h := h) (S := S)) (zr0_16 (h := h) (S := S)) (by decide)))
  · exact (zSta_f (zr0_17 (h := h) (S := S)) (zr0_18 (h := h) (S := S)) (zRow_f (n := 6) (zr0_19 (h := h) (S := S)) (zr0_20 (h := h) (S := S)) (by decide)))
  · exact (zSta_f (zr0_21 (h := h) (S := S)) (zr0_22 (h := h) (S := S)) (zRow_f (n := 6) (zr0_23 (h := h) (S := S)) (zr0_24 (h := h) (S := S)) (by decide)))
  · exact (zSta_f (zr0_25 (h := h) (S := S)) (zr0_26 (h := h) (S := S)) (zRow_f (n := 6) (zr0_27 (h := h) (S := S)) (zr0_28 (h := h) (S := S)) (by decide)))
  · exact (zSta_f (zr0_29 (h := h) (S := S)) (zr0_30 (h := h) (S := S)) (zRow_f (n := 6) (zr0_31 (h := h) (S := S)) (zr0_32 (h := h) (S := S)) (by decide)))
  · exact (zSta_f (zr0_33 (h := h) (S := S)) (zr0_34 (h := h) (S := S)) (zRow_f (n := 6) (zr0_35 (h := h) (S := S)) (zr0_36 (h := h) (S := S)) (by decide)))
  · exact (zSta_f (zr0_37 (h := h) (S := S)) (zr0_38 (h := h) (S := S)) (zRow_f (n := 6) (zr0_39 (h := h) (S := S)) (zr0_40 (h := h) (S := S)) (by decide)))
  · exact (zSta_f (zr0_41 (h := h) (S := S)) (zr0_42 (h := h) (S := S)) (zRow_f (n := 6) (zr0_43 (h := h) (S := S)) (zr0_44 (h := h) (S := S)) (by decide)))
theorem zfr_par : zPar (zext h (zC1 h.2.1) S) (h.2.1 + 63) [] 0 [] := ⟨by rw [zr0_63, nI_0], ⟨by rw [zr0_64]; show _ = ((8, [.ref _, .int (nI 0)]) : zC); rw [nI_0], ⟨List.replicate 60 0, by rw [zr0_65, List.map_replicate], List.length_replicate, rfl⟩, Nat.zero_le _, fun x hx => absurd hx List.not_mem_nil⟩, (zTre_f (m := 60) (zr0_66 (h := h) (S := S)) (zRow_f (n := 60) (zr0_67 (h := h) (S := S)) (zr0_68 (h := h) (S := S)) (by decide)) (zRow_f (n := 60) (zr0_69 (h := h) (S := S)) (zr0_70 (h := h) (S := S)) (by decide)) (zRow_f (n := 60) (zr0_71 (h := h) (S := S)) (zr0_72 (h := h) (S := S)) (by decide)) (zRow_f (n := 60) (zr0_73 (h := h) (S := S)) (zr0_74 (h := h) (S := S)) (by decide)))⟩
set_option maxRecDepth 10000 in
theorem zfr_scr : zScr (zext h (zC1 h.2.1) S) h.2.1 := by
  refine ⟨⟨[], (zTre_f (m := 124) (zr0_45 (h := h) (S := S)) (zRow_f (n := 124) (zr0_46 (h := h) (S := S)) (zr0_47 (h := h) (S := S)) (by decide)) (zRow_f (n := 124) (zr0_48 (h := h) (S := S)) (zr0_49 (h := h) (S := S)) (by decide)) (zRow_f (n := 124) (zr0_50 (h := h) (S := S)) (zr0_51 (h := h) (S := S)) (by decide)) (zRow_f (n := 124) (zr0_52 (h := h) (S := S)) (zr0_53 (h := h) (S := S)) (by decide)))⟩, ⟨[], (zTre_f (m := 124) (zr0_54 (h := h) (S := S)) (zRow_f (n := 124) (zr0_55 (h := h) (S := S)) (zr0_56 (h := h) (S := S)) (by decide)) (zRow_f (n := 124) (zr0_57 (h := h) (S := S)) (zr0_58 (h := h) (S := S)) (by decide)) (zRow_f (n := 124) (zr0_59 (h := h) (S := S)) (zr0_60 (h := h) (S := S)) (by decide)) (zRow_f (n := 124) (zr0_61 (h := h) (S := S)) (zr0_62 (h := h) (S := S)) (by decide)))⟩, ⟨List.replicate 124 0, (zr0_75 (h := h) (S := S)), (zRow_f (n := 124) (zr0_76 (h := h) (S := S)) (zr0_77 (h := h) (S := S)) (by decide)), List.length_replicate⟩, ⟨_, _, _, (zr0_78 (h := h) (S := S)), (zRow_f (n := 124) (zr0_79 (h := h) (S := S)) (zr0_80 (h := h) (S := S)) (by decide)), (zRow_f (n := 124) (zr0_81 (h := h) (S := S)) (zr0_82 (h := h) (S := S)) (by decide)), (zRow_f (n := 124) (zr0_83 (h := h) (S := S)) (zr0_84 (h := h) (S := S)) (by decide)), List.length_replicate, List.length_replicate, List.length_replicate⟩, ⟨(zr0_85 (h := h) (S := S)), ⟨[], (zTre_f (m := 62) (zr0_86 (h := h) (S := S)) (zRow_f (n := 62) (zr0_87 (h := h) (S := S)) (zr0_88 (h := h) (S := S)) (by decide)) (zRow_f (n := 62) (zr0_89 (h := h) (S := S)) (zr0_90 (h := h) (S := S)) (by decide)) (zRow_f (n := 62) (zr0_91 (h := h) (S := S)) (zr0_92 (h := h) (S := S)) (by decide)) (zRow_f (n := 62) (zr0_93 (h := h) (S := S)) (zr0_94 (h := h) (S := S)) (by decide)))⟩, _, (zRow_f (n := 31) (zr0_95 (h := h) (S := S)) (zr0_96 (h := h) (S := S)) (by decide)), List.length_replicate⟩, ⟨_, _, (zr0_97 (h := h) (S := S))⟩, ⟨_, _, _, (zr0_98 (h := h) (S := S)), (zRow_f (n := 124) (zr0_99 (h := h) (S := S)) (zr0_100 (h := h) (S := S)) (by decide)), (zRow_f (n := 124) (zr0_101 (h := h) (S := S)) (zr0_102 (h := h) (S := S)) (by decide)), (zRow_f (n := 124) (zr0_103 (h := h) (S := S)) (zr0_104 (h := h) (S := S)) (by decide)), List.length_replicate, List.length_replicate, List.length_replicate⟩, ⟨_, (zRow_f (n := 62) (zr0_105 (h := h) (S := S)) (zr0_106 (h := h) (S := S)) (by decide)), List.length_replicate⟩, ⟨_, (zRow_f (n := 62) (zr0_107 (h := h) (S := S)) (zr0_108 (h := h) (S := S)) (by decide)), List.length_replicate⟩, ⟨_, (zRow_f (n := 62) (zr0_109 (h := h) (S := S)) (zr0_110 (h := h) (S := S)) (by decide)), List.length_replicate⟩, ⟨_, (zRow_f (n := 62) (zr0_111 (h := h) (S := S)) (zr0_112 (h := h) (S := S)) (by decide)), List.length_replicate⟩, ⟨_, (zRow_f (n := 62) (zr0_113 (h := h) (S := S)) (zr0_114 (h := h) (S := S)) (by decide)), List.length_replicate⟩, ⟨_, (zRow_f (n := 7) (zr0_115 (h := h) (S := S)) (zr0_116 (h := h) (S := S)) (by decide)), List.length_replicate, fun x hx => List.eq_of_mem_replicate hx⟩, _, (zRow_f (n := 11) (zr0_117 (h := h) (S := S)) (zr0_118 (h := h) (S := S)) (by decide)), List.length_replicate⟩
theorem zfr_cls : zCls (zext h (zC1 h.2.1) S) h.2.1 yw0 := by
  refine ⟨Nat.le_of_eq zr0_sz.symm, zr0_0, ⟨yS0, (zSta_f (zr0_3 (h := h) (S := S)) (zr0_4 (h := h) (S := S)) (zRow_f (n := 6) (zr0_5 (h := h) (S := S)) (zr0_6 (h := h) (S := S)) (by decide))), zAS_0⟩, ⟨yS0, (zSta_f (zr0_7 (h := h) (S := S)) (zr0_8 (h := h) (S := S)) (zRow_f (n := 6) (zr0_9 (h := h) (S := S)) (zr0_10 (h := h) (S := S)) (by decide))), zAS_0⟩, ⟨[], zfr_his, rfl, fun j S2 A hj => (by cases hj)⟩, ⟨0, [], zfr_par⟩, zfr_scr, ?_⟩
  refine ⟨h.2.1 + 2, List.replicate 16 0, 0, by rw [zr0_1]; show _ = ((2, [.ref _, .int 0, .int 0, .int (nI 0)]) : zC); rw [nI_0], by rw [zr0_2, List.map_replicate], Or.inl rfl, Nat.zero_le _, rfl, by rw [List.length_replicate]; decide, fun x hx => ?_⟩
  rw [List.eq_of_mem_replicate hx]
  decide +kernel
end ZSK

section ZHL
variable {sv : Nat → Value} {D : Nat} {h : zH} {m N M : Nat} {w w1 : yW}
theorem h_218v {x1 : Int32} {y : Int32} (hc : zCls h m w) (e : zEnd h m (zcall zP sv D 24 [.ref m, .int x1] h) N M (.inl (some (.int y))) w1) : zEnd h m (zcall zP sv (D + 1) 218 [.ref m, .int x1] h) N M (.inl (some (.int y))) w1 := by
  obtain ⟨h1, e, g⟩ := e
  refine ⟨h1, ?_, g⟩
  simp (disch := first | exact znw_u | exact znw_i) only [zc_218, zs_218_0, zs_218_0n, zs_218_1, zs_218_2, zs_218_5, zs_218_7, zs_218_10, zh_218_2_0, zEC1 hc, e, zbk_v, zts_s, zts_n, List.cons_append, List.nil_append]
theorem h_218e0 {x1 : Int32} (hc : zCls h m w) (e : zEnd h m (zcall zP sv D 24 [.ref m, .int x1] h) N M (.inr 0) w1) : zEnd h m (zcall zP sv (D + 1) 218 [.ref m, .int x1] h) N M (.inl (some (.int (-1001)))) w1 := by
  obtain ⟨h1, e, g⟩ := e
  refine ⟨h1, ?_, g⟩
  simp (disch := first | exact znw_u | exact znw_i) only [zc_218, zs_218_0, zs_218_0n, zs_218_1, zs_218_2, zs_218_5, zs_218_7, zs_218_10, zh_218_2_0, zEC1 hc, e, zbk_x, zh_218_2_0, zts_s, zts_n, List.cons_append, List.nil_append]
theorem h_219v  {y : Int32} (hc : zCls h m w) (e : zEnd h m (zcall zP sv D 26 [.ref m] h) N M (.inl (some (.int y))) w1) : zEnd h m (zcall zP sv (D + 1) 219 [.ref m] h) N M (.inl (some (.int y))) w1 := by
  obtain ⟨h1, e, g⟩ := e
  refine ⟨h1, ?_, g⟩
  simp (disch := first | exact znw_u | exact znw_i) only [zc_219, zs_219_0, zs_219_0n, zs_219_1, zs_219_4, zs_219_6, zs_219_9, zs_219_11, zs_219_14, zs_219_16, zs_219_19, zh_219_1_1, zh_219_1_0, zh_219_1_3, zEC1 hc, e, zbk_v, zts_s, zts_n, List.cons_append, List.nil_append]
theorem h_219e1  (hc : zCls h m w) (e : zEnd h m (zcall zP sv D 26 [.ref m] h) N M (.inr 1) w1) : zEnd h m (zcall zP sv (D + 1) 219 [.ref m] h) N M (.inl (some (.int (-1001)))) w1 := by
  obtain ⟨h1, e, g⟩ := e
  refine ⟨h1, ?_, g⟩
  simp (disch := first | exact znw_u | exact znw_i) only [zc_219, zs_219_0, zs_219_0n, zs_219_1, zs_219_4, zs_219_6, zs_219_9, zs_219_11, zs_219_14, zs_219_16, zs_219_19, zh_219_1_1, zh_219_1_0, zh_219_1_3, zEC1 hc, e, zbk_x, zh_219_1_1, zts_s, zts_n, List.cons_append, List.nil_append]
theorem h_219e0  (hc : zCls h m w) (e : zEnd h m (zcall zP sv D 26 [.ref m] h) N M (.inr 0) w1) : zEnd h m (zcall zP sv (D + 1) 219 [.ref m] h) N M (.inl (some (.int (-1002)))) w1 := by
  obtain ⟨h1, e, g⟩ := e
  refine ⟨h1, ?_, g⟩
  simp (disch := first | exact znw_u | exact znw_i) only [zc_219, zs_219_0, zs_219_0n, zs_219_1, zs_219_4, zs_219_6, zs_219_9, zs_219_11, zs_219_14, zs_219_16, zs_219_19, zh_219_1_1, zh_219_1_0, zh_219_1_3, zEC1 hc, e, zbk_x, zh_219_1_0, zts_s, zts_n, List.cons_append, List.nil_append]
theorem h_219e3  (hc : zCls h m w) (e : zEnd h m (zcall zP sv D 26 [.ref m] h) N M (.inr 3) w1) : zEnd h m (zcall zP sv (D + 1) 219 [.ref m] h) N M (.inl (some (.int (-1003)))) w1 := by
  obtain ⟨h1, e, g⟩ := e
  refine ⟨h1, ?_, g⟩
  simp (disch := first | exact znw_u | exact znw_i) only [zc_219, zs_219_0, zs_219_0n, zs_219_1, zs_219_4, zs_219_6, zs_219_9, zs_219_11, zs_219_14, zs_219_16, zs_219_19, zh_219_1_1, zh_219_1_0, zh_219_1_3, zEC1 hc, e, zbk_x, zh_219_1_3, zts_s, zts_n, List.cons_append, List.nil_append]
theorem h_220v {x1 : Int32} {y : Int32} (hc : zCls h m w) (e : zEnd h m (zcall zP sv D 27 [.ref m, .int x1] h) N M (.inl (some (.int y))) w1) : zEnd h m (zcall zP sv (D + 1) 220 [.ref m, .int x1] h) N M (.inl (some (.int y))) w1 := by
  obtain ⟨h1, e, g⟩ := e
  refine ⟨h1, ?_, g⟩
  simp (disch := first | exact znw_u | exact znw_i) only [zc_220, zs_220_0, zs_220_0n, zs_220_1, zs_220_2, zs_220_5, zs_220_7, zs_220_10, zh_220_2_2, zEC1 hc, e, zbk_v, zts_s, zts_n, List.cons_append, List.nil_append]
theorem h_220e2 {x1 : Int32} (hc : zCls h m w) (e : zEnd h m (zcall zP sv D 27 [.ref m, .int x1] h) N M (.inr 2) w1) : zEnd h m (zcall zP sv (D + 1) 220 [.ref m, .int x1] h) N M (.inl (some (.int (-1001)))) w1 := by
  obtain ⟨h1, e, g⟩ := e
  refine ⟨h1, ?_, g⟩
  simp (disch := first | exact znw_u | exact znw_i) only [zc_220, zs_220_0, zs_220_0n, zs_220_1, zs_220_2, zs_220_5, zs_220_7, zs_220_10, zh_220_2_2, zEC1 hc, e, zbk_x, zh_220_2_2, zts_s, zts_n, List.cons_append, List.nil_append]
theorem h_221v {x1 : Int32} {y : Int32} (hc : zCls h m w) (e : zEnd h m (zcall zP sv D 28 [.ref m, .int x1] h) N M (.inl (some (.int y))) w1) : zEnd h m (zcall zP sv (D + 1) 221 [.ref m, .int x1] h) N M (.inl (some (.int y))) w1 := by
  obtain ⟨h1, e, g⟩ := e
  refine ⟨h1, ?_, g⟩
  simp (disch := first | exact znw_u | exact znw_i) only [zc_221, zs_221_0, zs_221_0n, zs_221_1, zs_221_2, zs_221_5, zs_221_7, zs_221_10, zh_221_2_2, zEC1 hc, e, zbk_v, zts_s, zts_n, List.cons_append, List.nil_append]
theorem h_221e2 {x1 : Int32} (hc : zCls h m w) (e : zEnd h m (zcall zP sv D 28 [.ref m, .int x1] h) N M (.inr 2) w1) : zEnd h m (zcall zP sv (D + 1) 221 [.ref m, .int x1] h) N M (.inl (some (.int (-1001)))) w1 := by
  obtain ⟨h1, e, g⟩ := e
  refine ⟨h1, ?_, g⟩
  simp (disch := first | exact znw_u | exact znw_i) only [zc_221, zs_221_0, zs_221_0n, zs_221_1, zs_221_2, zs_221_5, zs_221_7, zs_221_10, zh_221_2_2, zEC1 hc, e, zbk_x, zh_221_2_2, zts_s, zts_n, List.cons_append, List.nil_append]
theorem h_222v {x1 : Int32} {x2 : Int32} {y : Int32} (hc : zCls h m w) (e : zEnd h m (zcall zP sv D 29 [.ref m, .int x1, .int x2] h) N M (.inl (some (.int y))) w1) : zEnd h m (zcall zP sv (D + 1) 222 [.ref m, .int x1, .int x2] h) N M (.inl (some (.int y))) w1 := by
  obtain ⟨h1, e, g⟩ := e
  refine ⟨h1, ?_, g⟩
  simp (disch := first | exact znw_u | exact znw_i) only [zc_222, zs_222_0, zs_222_0n, zs_222_1, zs_222_2, zs_222_3, zs_222_6, zs_222_8, zs_222_11, zs_222_13, zs_222_16, zs_222_18, zs_222_21, zs_222_23, zs_222_26, zh_222_3_2, zh_222_3_1, zh_222_3_0, zh_222_3_3, zEC1 hc, e, zbk_v, zts_s, zts_n, List.cons_append, List.nil_append]
theorem h_222e2 {x1 : Int32} {x2 : Int32} (hc : zCls h m w) (e : zEnd h m (zcall zP sv D 29 [.ref m, .int x1, .int x2] h) N M (.inr 2) w1) : zEnd h m (zcall zP sv (D + 1) 222 [.ref m, .int x1, .int x2] h) N M (.inl (some (.int (-1001)))) w1 := by
  obtain ⟨h1, e, g⟩ := e
  refine ⟨h1, ?_, g⟩
  simp (disch := first | exact znw_u | exact znw_i) only [zc_222, zs_222_0, zs_222_0n, zs_222_1, zs_222_2, zs_222_3, zs_222_6, zs_222_8, zs_222_11, zs_222_13, zs_222_16, zs_222_18, zs_222_21, zs_222_23, zs_222_26, zh_222_3_2, zh_222_3_1, zh_222_3_0, zh_222_3_3, zEC1 hc, e, zbk_x, zh_222_3_2, zts_s, zts_n, List.cons_append, List.nil_append]
theorem h_222e1 {x1 : Int32} {x2 : Int32} (hc : zCls h m w) (e : zEnd h m (zcall zP sv D 29 [.ref m, .int x1, .int x2] h) N M (.inr 1) w1) : zEnd h m (zcall zP sv (D + 1) 222 [.ref m, .int x1, .int x2] h) N M (.inl (some (.int (-1002)))) w1 := by
  obtain ⟨h1, e, g⟩ := e
  refine ⟨h1, ?_, g⟩
  simp (disch := first | exact znw_u | exact znw_i) only [zc_222, zs_222_0, zs_222_0n, zs_222_1, zs_222_2, zs_222_3, zs_222_6, zs_222_8, zs_222_11, zs_222_13, zs_222_16, zs_222_18, zs_222_21, zs_222_23, zs_222_26, zh_222_3_2, zh_222_3_1, zh_222_3_0, zh_222_3_3, zEC1 hc, e, zbk_x, zh_222_3_1, zts_s, zts_n, List.cons_append, List.nil_append]
theorem h_222e0 {x1 : Int32} {x2 : Int32} (hc : zCls h m w) (e : zEnd h m (zcall zP sv D 29 [.ref m, .int x1, .int x2] h) N M (.inr 0) w1) : zEnd h m (zcall zP sv (D + 1) 222 [.ref m, .int x1, .int x2] h) N M (.inl (some (.int (-1003)))) w1 := by
  obtain ⟨h1, e, g⟩ := e
  refine ⟨h1, ?_, g⟩
  simp (disch := first | exact znw_u | exact znw_i) only [zc_222, zs_222_0, zs_222_0n, zs_222_1, zs_222_2, zs_222_3, zs_222_6, zs_222_8, zs_222_11, zs_222_13, zs_222_16, zs_222_18, zs_222_21, zs_222_23, zs_222_26, zh_222_3_2, zh_222_3_1, zh_222_3_0, zh_222_3_3, zEC1 hc, e, zbk_x, zh_222_3_0, zts_s, zts_n, List.cons_append, List.nil_append]
theorem h_222e3 {x1 : Int32} {x2 : Int32} (hc : zCls h m w) (e : zEnd h m (zcall zP sv D 29 [.ref m, .int x1, .int x2] h) N M (.inr 3) w1) : zEnd h m (zcall zP sv (D + 1) 222 [.ref m, .int x1, .int x2] h) N M (.inl (some (.int (-1004)))) w1 := by
  obtain ⟨h1, e, g⟩ := e
  refine ⟨h1, ?_, g⟩
  simp (disch := first | exact znw_u | exact znw_i) only [zc_222, zs_222_0, zs_222_0n, zs_222_1, zs_222_2, zs_222_3, zs_222_6, zs_222_8, zs_222_11, zs_222_13, zs_222_16, zs_222_18, zs_222_21, zs_222_23, zs_222_26, zh_222_3_2, zh_222_3_1, zh_222_3_0, zh_222_3_3, zEC1 hc, e, zbk_x, zh_222_3_3, zts_s, zts_n, List.cons_append, List.nil_append]
theorem h_223v {x1 : Int32} {x2 : Int32} {x3 : Int32} {y : Int32} (hc : zCls h m w) (e : zEnd h m (zcall zP sv D 30 [.ref m, .int x1, .int x2, .int x3] h) N M (.inl (some (.int y))) w1) : zEnd h m (zcall zP sv (D + 1) 223 [.ref m, .int x1, .int x2, .int x3] h) N M (.inl (some (.int y))) w1 := by
  obtain ⟨h1, e, g⟩ := e
  refine ⟨h1, ?_, g⟩
  simp (disch := first | exact znw_u | exact znw_i) only [zc_223, zs_223_0, zs_223_0n, zs_223_1, zs_223_2, zs_223_3, zs_223_4, zs_223_7, zs_223_10, zs_223_13, zs_223_16, zs_223_19, zs_223_22, zs_223_25, zh_223_4_2, zh_223_4_1, zh_223_4_3, zEC1 hc, e, zbk_v, zts_s, zts_n, List.cons_append, List.nil_append]
theorem h_223e2 {x1 : Int32} {x2 : Int32} {x3 : Int32} (hc : zCls h m w) (e : zEnd h m (zcall zP sv D 30 [.ref m, .int x1, .int x2, .int x3] h) N M (.inr 2) w1) : zEnd h m (zcall zP sv (D + 1) 223 [.ref m, .int x1, .int x2, .int x3] h) N M (.inl (some (.int (-1001)))) w1 := by
  obtain ⟨h1, e, g⟩ := e
  refine ⟨h1, ?_, g⟩
  simp (disch := first | exact znw_u | exact znw_i) only [zc_223, zs_223_0, zs_223_0n, zs_223_1, zs_223_2, zs_223_3, zs_223_4, zs_223_7, zs_223_10, zs_223_13, zs_223_16, zs_223_19, zs_223_22, zs_223_25, zh_223_4_2, zh_223_4_1, zh_223_4_3, zEC1 hc, e, zbk_x, zh_223_4_2, zts_s, zts_n, List.cons_append, List.nil_append]
theorem h_223e1 {x1 : Int32} {x2 : Int32} {x3 : Int32} (hc : zCls h m w) (e : zEnd h m (zcall zP sv D 30 [.ref m, .int x1, .int x2, .int x3] h) N M (.inr 1) w1) : zEnd h m (zcall zP sv (D + 1) 223 [.ref m, .int x1, .int x2, .int x3] h) N M (.inl (some (.int (-1002)))) w1 := by
  obtain ⟨h1, e, g⟩ := e
  refine ⟨h1, ?_, g⟩
  simp (disch := first | exact znw_u | exact znw_i) only [zc_223, zs_223_0, zs_223_0n, zs_223_1, zs_223_2, zs_223_3, zs_223_4, zs_223_7, zs_223_10, zs_223_13, zs_223_16, zs_223_19, zs_223_22, zs_223_25, zh_223_4_2, zh_223_4_1, zh_223_4_3, zEC1 hc, e, zbk_x, zh_223_4_1, zts_s, zts_n, List.cons_append, List.nil_append]
theorem h_223e3 {x1 : Int32} {x2 : Int32} {x3 : Int32} (hc : zCls h m w) (e : zEnd h m (zcall zP sv D 30 [.ref m, .int x1, .int x2, .int x3] h) N M (.inr 3) w1) : zEnd h m (zcall zP sv (D + 1) 223 [.ref m, .int x1, .int x2, .int x3] h) N M (.inl (some (.int (-1003)))) w1 := by
  obtain ⟨h1, e, g⟩ := e
  refine ⟨h1, ?_, g⟩
  simp (disch := first | exact znw_u | exact znw_i) only [zc_223, zs_223_0, zs_223_0n, zs_223_1, zs_223_2, zs_223_3, zs_223_4, zs_223_7, zs_223_10, zs_223_13, zs_223_16, zs_223_19, zs_223_22, zs_223_25, zh_223_4_2, zh_223_4_1, zh_223_4_3, zEC1 hc, e, zbk_x, zh_223_4_3, zts_s, zts_n, List.cons_append, List.nil_append]
theorem h_224v {x1 : Int32} {y : Int32} (hc : zCls h m w) (e : zEnd h m (zcall zP sv D 34 [.ref m, .int x1] h) N M (.inl (some (.int y))) w1) : zEnd h m (zcall zP sv (D + 1) 224 [.ref m, .int x1] h) N M (.inl (some (.int y))) w1 := by
  obtain ⟨h1, e, g⟩ := e
  refine ⟨h1, ?_, g⟩
  simp (disch := first | exact znw_u | exact znw_i) only [zc_224, zs_224_0, zs_224_0n, zs_224_1, zs_224_2, zs_224_5, zs_224_7, zs_224_10, zh_224_2_1, zEC1 hc, e, zbk_v, zts_s, zts_n, List.cons_append, List.nil_append]
theorem h_224e1 {x1 : Int32} (hc : zCls h m w) (e : zEnd h m (zcall zP sv D 34 [.ref m, .int x1] h) N M (.inr 1) w1) : zEnd h m (zcall zP sv (D + 1) 224 [.ref m, .int x1] h) N M (.inl (some (.int (-1001)))) w1 := by
  obtain ⟨h1, e, g⟩ := e
  refine ⟨h1, ?_, g⟩
  simp (disch := first | exact znw_u | exact znw_i) only [zc_224, zs_224_0, zs_224_0n, zs_224_1, zs_224_2, zs_224_5, zs_224_7, zs_224_10, zh_224_2_1, zEC1 hc, e, zbk_x, zh_224_2_1, zts_s, zts_n, List.cons_append, List.nil_append]
theorem h_225v {x1 : Int32} {y : Int32} (hc : zCls h m w) (e : zEnd h m (zcall zP sv D 32 [.ref m, .int x1] h) N M (.inl (some (.int y))) w1) : zEnd h m (zcall zP sv (D + 1) 225 [.ref m, .int x1] h) N M (.inl (some (.int y))) w1 := by
  obtain ⟨h1, e, g⟩ := e
  refine ⟨h1, ?_, g⟩
  simp (disch := first | exact znw_u | exact znw_i) only [zc_225, zs_225_0, zs_225_0n, zs_225_1, zs_225_2, zs_225_5, zs_225_7, zs_225_10, zh_225_2_1, zEC1 hc, e, zbk_v, zts_s, zts_n, List.cons_append, List.nil_append]
theorem h_225e1 {x1 : Int32} (hc : zCls h m w) (e : zEnd h m (zcall zP sv D 32 [.ref m, .int x1] h) N M (.inr 1) w1) : zEnd h m (zcall zP sv (D + 1) 225 [.ref m, .int x1] h) N M (.inl (some (.int (-1001)))) w1 := by
  obtain ⟨h1, e, g⟩ := e
  refine ⟨h1, ?_, g⟩
  simp (disch := first | exact znw_u | exact znw_i) only [zc_225, zs_225_0, zs_225_0n, zs_225_1, zs_225_2, zs_225_5, zs_225_7, zs_225_10, zh_225_2_1, zEC1 hc, e, zbk_x, zh_225_2_1, zts_s, zts_n, List.cons_append, List.nil_append]
theorem h_226v {x1 : Int32} {y : Int32} (hc : zCls h m w) (e : zEnd h m (zcall zP sv D 36 [.ref m, .int x1] h) N M (.inl (some (.int y))) w1) : zEnd h m (zcall zP sv (D + 1) 226 [.ref m, .int x1] h) N M (.inl (some (.int y))) w1 := by
  obtain ⟨h1, e, g⟩ := e
  refine ⟨h1, ?_, g⟩
  simp (disch := first | exact znw_u | exact znw_i) only [zc_226, zs_226_0, zs_226_0n, zs_226_1, zs_226_2, zs_226_5, zs_226_7, zs_226_10, zh_226_2_2, zEC1 hc, e, zbk_v, zts_s, zts_n, List.cons_append, List.nil_append]
theorem h_226e2 {x1 : Int32} (hc : zCls h m w) (e : zEnd h m (zcall zP sv D 36 [.ref m, .int x1] h) N M (.inr 2) w1) : zEnd h m (zcall zP sv (D + 1) 226 [.ref m, .int x1] h) N M (.inl (some (.int (-1001)))) w1 := by
  obtain ⟨h1, e, g⟩ := e
  refine ⟨h1, ?_, g⟩
  simp (disch := first | exact znw_u | exact znw_i) only [zc_226, zs_226_0, zs_226_0n, zs_226_1, zs_226_2, zs_226_5, zs_226_7, zs_226_10, zh_226_2_2, zEC1 hc, e, zbk_x, zh_226_2_2, zts_s, zts_n, List.cons_append, List.nil_append]
theorem h_227v {x1 : Int32} {y : Int32} (hc : zCls h m w) (e : zEnd h m (zcall zP sv D 37 [.ref m, .int x1] h) N M (.inl (some (.int y))) w1) : zEnd h m (zcall zP sv (D + 1) 227 [.ref m, .int x1] h) N M (.inl (some (.int y))) w1 := by
  obtain ⟨h1, e, g⟩ := e
  refine ⟨h1, ?_, g⟩
  simp (disch := first | exact znw_u | exact znw_i) only [zc_227, zs_227_0, zs_227_0n, zs_227_1, zs_227_2, zs_227_5, zs_227_7, zs_227_10, zh_227_2_2, zEC1 hc, e, zbk_v, zts_s, zts_n, List.cons_append, List.nil_append]
theorem h_227e2 {x1 : Int32} (hc : zCls h m w) (e : zEnd h m (zcall zP sv D 37 [.ref m, .int x1] h) N M (.inr 2) w1) : zEnd h m (zcall zP sv (D + 1) 227 [.ref m, .int x1] h) N M (.inl (some (.int (-1001)))) w1 := by
  obtain ⟨h1, e, g⟩ := e
  refine ⟨h1, ?_, g⟩
  simp (disch := first | exact znw_u | exact znw_i) only [zc_227, zs_227_0, zs_227_0n, zs_227_1, zs_227_2, zs_227_5, zs_227_7, zs_227_10, zh_227_2_2, zEC1 hc, e, zbk_x, zh_227_2_2, zts_s, zts_n, List.cons_append, List.nil_append]
theorem h_228v {x1 : Int32} {x2 : Int32} {y : Int32} (hc : zCls h m w) (e : zEnd h m (zcall zP sv D 38 [.ref m, .int x1, .int x2] h) N M (.inl (some (.int y))) w1) : zEnd h m (zcall zP sv (D + 1) 228 [.ref m, .int x1, .int x2] h) N M (.inl (some (.int y))) w1 := by
  obtain ⟨h1, e, g⟩ := e
  refine ⟨h1, ?_, g⟩
  simp (disch := first | exact znw_u | exact znw_i) only [zc_228, zs_228_0, zs_228_0n, zs_228_1, zs_228_2, zs_228_3, zs_228_6, zs_228_8, zs_228_11, zs_228_13, zs_228_16, zh_228_3_2, zh_228_3_1, zEC1 hc, e, zbk_v, zts_s, zts_n, List.cons_append, List.nil_append]
theorem h_228e2 {x1 : Int32} {x2 : Int32} (hc : zCls h m w) (e : zEnd h m (zcall zP sv D 38 [.ref m, .int x1, .int x2] h) N M (.inr 2) w1) : zEnd h m (zcall zP sv (D + 1) 228 [.ref m, .int x1, .int x2] h) N M (.inl (some (.int (-1001)))) w1 := by
  obtain ⟨h1, e, g⟩ := e
  refine ⟨h1, ?_, g⟩
  simp (disch := first | exact znw_u | exact znw_i) only [zc_228, zs_228_0, zs_228_0n, zs_228_1, zs_228_2, zs_228_3, zs_228_6, zs_228_8, zs_228_11, zs_228_13, zs_228_16, zh_228_3_2, zh_228_3_1, zEC1 hc, e, zbk_x, zh_228_3_2, zts_s, zts_n, List.cons_append, List.nil_append]
theorem h_228e1 {x1 : Int32} {x2 : Int32} (hc : zCls h m w) (e : zEnd h m (zcall zP sv D 38 [.ref m, .int x1, .int x2] h) N M (.inr 1) w1) : zEnd h m (zcall zP sv (D + 1) 228 [.ref m, .int x1, .int x2] h) N M (.inl (some (.int (-1002)))) w1 := by
  obtain ⟨h1, e, g⟩ := e
  refine ⟨h1, ?_, g⟩
  simp (disch := first | exact znw_u | exact znw_i) only [zc_228, zs_228_0, zs_228_0n, zs_228_1, zs_228_2, zs_228_3, zs_228_6, zs_228_8, zs_228_11, zs_228_13, zs_228_16, zh_228_3_2, zh_228_3_1, zEC1 hc, e, zbk_x, zh_228_3_1, zts_s, zts_n, List.cons_append, List.nil_append]
theorem h_229v {x1 : Int32} {y : Int32} (hc : zCls h m w) (e : zEnd h m (zcall zP sv D 39 [.ref m, .int x1] h) N M (.inl (some (.int y))) w1) : zEnd h m (zcall zP sv (D + 1) 229 [.ref m, .int x1] h) N M (.inl (some (.int y))) w1 := by
  obtain ⟨h1, e, g⟩ := e
  refine ⟨h1, ?_, g⟩
  simp (disch := first | exact znw_u | exact znw_i) only [zc_229, zs_229_0, zs_229_0n, zs_229_1, zs_229_2, zs_229_5, zs_229_7, zs_229_10, zh_229_2_2, zEC1 hc, e, zbk_v, zts_s, zts_n, List.cons_append, List.nil_append]
theorem h_229e2 {x1 : Int32} (hc : zCls h m w) (e : zEnd h m (zcall zP sv D 39 [.ref m, .int x1] h) N M (.inr 2) w1) : zEnd h m (zcall zP sv (D + 1) 229 [.ref m, .int x1] h) N M (.inl (some (.int (-1001)))) w1 := by
  obtain ⟨h1, e, g⟩ := e
  refine ⟨h1, ?_, g⟩
  simp (disch := first | exact znw_u | exact znw_i) only [zc_229, zs_229_0, zs_229_0n, zs_229_1, zs_229_2, zs_229_5, zs_229_7, zs_229_10, zh_229_2_2, zEC1 hc, e, zbk_x, zh_229_2_2, zts_s, zts_n, List.cons_append, List.nil_append]
theorem h_230e2 {x1 : Int32} (hc : zCls h m w) (e : zEnd h m (zcall zP sv D 40 [.ref m, .int x1] h) N M (.inr 2) w1) : zEnd h m (zcall zP sv (D + 1) 230 [.ref m, .int x1] h) N M (.inl (some (.int (-1001)))) w1 := by
  obtain ⟨h1, e, g⟩ := e
  refine ⟨h1, ?_, g⟩
  simp (disch := first | exact znw_u | exact znw_i) only [zc_230, zs_230_0, zs_230_0n, zs_230_1, zs_230_2, zs_230_5, zs_230_8, zs_230_9, zs_230_12, zs_230_13, zs_230_15, zs_230_18, zh_230_2_2, zEC1 hc, e, zbk_x, zh_230_2_2, zts_s, zts_n, List.cons_append, List.nil_append]
theorem h_231e2 {x1 : Int32} {x2 : Int32} (hc : zCls h m w) (e : zEnd h m (zcall zP sv D 41 [.ref m, .int x1, .int x2] h) N M (.inr 2) w1) : zEnd h m (zcall zP sv (D + 1) 231 [.ref m, .int x1, .int x2] h) N M (.inl (some (.int (-1001)))) w1 := by
  obtain ⟨h1, e, g⟩ := e
  refine ⟨h1, ?_, g⟩
  simp (disch := first | exact znw_u | exact znw_i) only [zc_231, zs_231_0, zs_231_0n, zs_231_1, zs_231_2, zs_231_3, zs_231_6, zs_231_9, zs_231_10, zs_231_13, zs_231_14, zs_231_16, zs_231_19, zh_231_3_2, zEC1 hc, e, zbk_x, zh_231_3_2, zts_s, zts_n, List.cons_append, List.nil_append]
theorem h_232v {x1 : Int32} {y : Int32} (hc : zCls h m w) (e : zEnd h m (zcall zP sv D 42 [.ref m, .int x1] h) N M (.inl (some (.int y))) w1) : zEnd h m (zcall zP sv (D + 1) 232 [.ref m, .int x1] h) N M (.inl (some (.int y))) w1 := by
  obtain ⟨h1, e, g⟩ := e
  refine ⟨h1, ?_, g⟩
  simp (disch := first | exact znw_u | exact znw_i) only [zc_232, zs_232_0, zs_232_0n, zs_232_1, zs_232_2, zs_232_5, zs_232_7, zs_232_10, zh_232_2_2, zEC1 hc, e, zbk_v, zts_s, zts_n, List.cons_append, List.nil_append]
theorem h_232e2 {x1 : Int32} (hc : zCls h m w) (e : zEnd h m (zcall zP sv D 42 [.ref m, .int x1] h) N M (.inr 2) w1) : zEnd h m (zcall zP sv (D + 1) 232 [.ref m, .int x1] h) N M (.inl (some (.int (-1001)))) w1 := by
  obtain ⟨h1, e, g⟩ := e
  refine ⟨h1, ?_, g⟩
  simp (disch := first | exact znw_u | exact znw_i) only [zc_232, zs_232_0, zs_232_0n, zs_232_1, zs_232_2, zs_232_5, zs_232_7, zs_232_10, zh_232_2_2, zEC1 hc, e, zbk_x, zh_232_2_2, zts_s, zts_n, List.cons_append, List.nil_append]
theorem h_233v {x1 : Int32} {y : Int32} (hc : zCls h m w) (e : zEnd h m (zcall zP sv D 43 [.ref m, .int x1] h) N M (.inl (some (.int y))) w1) : zEnd h m (zcall zP sv (D + 1) 233 [.ref m, .int x1] h) N M (.inl (some (.int y))) w1 := by
  obtain ⟨h1, e, g⟩ := e
  refine ⟨h1, ?_, g⟩
  simp (disch := first | exact znw_u | exact znw_i) only [zc_233, zs_233_0, zs_233_0n, zs_233_1, zs_233_2, zs_233_5, zs_233_7, zs_233_10, zh_233_2_2, zEC1 hc, e, zbk_v, zts_s, zts_n, List.cons_append, List.nil_append]
theorem h_233e2 {x1 : Int32} (hc : zCls h m w) (e : zEnd h m (zcall zP sv D 43 [.ref m, .int x1] h) N M (.inr 2) w1) : zEnd h m (zcall zP sv (D + 1) 233 [.ref m, .int x1] h) N M (.inl (some (.int (-1001)))) w1 := by
  obtain ⟨h1, e, g⟩ := e
  refine ⟨h1, ?_, g⟩
  simp (disch := first | exact znw_u | exact znw_i) only [zc_233, zs_233_0, zs_233_0n, zs_233_1, zs_233_2, zs_233_5, zs_233_7, zs_233_10, zh_233_2_2, zEC1 hc, e, zbk_x, zh_233_2_2, zts_s, zts_n, List.cons_append, List.nil_append]
theorem h_234v {x1 : Int32} {x2 : Int32} {y : Int32} (hc : zCls h m w) (e : zEnd h m (zcall zP sv D 44 [.ref m, .int x1, .int x2] h) N M (.inl (some (.int y))) w1) : zEnd h m (zcall zP sv (D + 1) 234 [.ref m, .int x1, .int x2] h) N M (.inl (some (.int y))) w1 := by
  obtain ⟨h1, e, g⟩ := e
  refine ⟨h1, ?_, g⟩
  simp (disch := first | exact znw_u | exact znw_i) only [zc_234, zs_234_0, zs_234_0n, zs_234_1, zs_234_2, zs_234_3, zs_234_6, zs_234_8, zs_234_11, zh_234_3_2, zEC1 hc, e, zbk_v, zts_s, zts_n, List.cons_append, List.nil_append]
theorem h_234e2 {x1 : Int32} {x2 : Int32} (hc : zCls h m w) (e : zEnd h m (zcall zP sv D 44 [.ref m, .int x1, .int x2] h) N M (.inr 2) w1) : zEnd h m (zcall zP sv (D + 1) 234 [.ref m, .int x1, .int x2] h) N M (.inl (some (.int (-1001)))) w1 := by
  obtain ⟨h1, e, g⟩ := e
  refine ⟨h1, ?_, g⟩
  simp (disch := first | exact znw_u | exact znw_i) only [zc_234, zs_234_0, zs_234_0n, zs_234_1, zs_234_2, zs_234_3, zs_234_6, zs_234_8, zs_234_11, zh_234_3_2, zEC1 hc, e, zbk_x, zh_234_3_2, zts_s, zts_n, List.cons_append, List.nil_append]
theorem h_235v {x1 : Int32} {y : Int32} (hc : zCls h m w) (e : zEnd h m (zcall zP sv D 49 [.ref m, .int x1] h) N M (.inl (some (.int y))) w1) : zEnd h m (zcall zP sv (D + 1) 235 [.ref m, .int x1] h) N M (.inl (some (.int y))) w1 := by
  obtain ⟨h1, e, g⟩ := e
  refine ⟨h1, ?_, g⟩
  simp (disch := first | exact znw_u | exact znw_i) only [zc_235, zs_235_0, zs_235_0n, zs_235_1, zs_235_2, zs_235_5, zs_235_7, zs_235_10, zh_235_2_2, zEC1 hc, e, zbk_v, zts_s, zts_n, List.cons_append, List.nil_append]
theorem h_235e2 {x1 : Int32} (hc : zCls h m w) (e : zEnd h m (zcall zP sv D 49 [.ref m, .int x1] h) N M (.inr 2) w1) : zEnd h m (zcall zP sv (D + 1) 235 [.ref m, .int x1] h) N M (.inl (some (.int (-1001)))) w1 := by
  obtain ⟨h1, e, g⟩ := e
  refine ⟨h1, ?_, g⟩
  simp (disch := first | exact znw_u | exact znw_i) only [zc_235, zs_235_0, zs_235_0n, zs_235_1, zs_235_2, zs_235_5, zs_235_7, zs_235_10, zh_235_2_2, zEC1 hc, e, zbk_x, zh_235_2_2, zts_s, zts_n, List.cons_append, List.nil_append]
theorem h_236v {x1 : Int32} {y : Int32} (hc : zCls h m w) (e : zEnd h m (zcall zP sv D 50 [.ref m, .int x1] h) N M (.inl (some (.int y))) w1) : zEnd h m (zcall zP sv (D + 1) 236 [.ref m, .int x1] h) N M (.inl (some (.int y))) w1 := by
  obtain ⟨h1, e, g⟩ := e
  refine ⟨h1, ?_, g⟩
  simp (disch := first | exact znw_u | exact znw_i) only [zc_236, zs_236_0, zs_236_0n, zs_236_1, zs_236_2, zs_236_5, zs_236_7, zs_236_10, zh_236_2_2, zEC1 hc, e, zbk_v, zts_s, zts_n, List.cons_append, List.nil_append]
theorem h_236e2 {x1 : Int32} (hc : zCls h m w) (e : zEnd h m (zcall zP sv D 50 [.ref m, .int x1] h) N M (.inr 2) w1) : zEnd h m (zcall zP sv (D + 1) 236 [.ref m, .int x1] h) N M (.inl (some (.int (-1001)))) w1 := by
  obtain ⟨h1, e, g⟩ := e
  refine ⟨h1, ?_, g⟩
  simp (disch := first | exact znw_u | exact znw_i) only [zc_236, zs_236_0, zs_236_0n, zs_236_1, zs_236_2, zs_236_5, zs_236_7, zs_236_10, zh_236_2_2, zEC1 hc, e, zbk_x, zh_236_2_2, zts_s, zts_n, List.cons_append, List.nil_append]
theorem h_237v {x1 : Int32} {y : Int32} (hc : zCls h m w) (e : zEnd h m (zcall zP sv D 51 [.ref m, .int x1] h) N M (.inl (some (.int y))) w1) : zEnd h m (zcall zP sv (D + 1) 237 [.ref m, .int x1] h) N M (.inl (some (.int y))) w1 := by
  obtain ⟨h1, e, g⟩ := e
  refine ⟨h1, ?_, g⟩
  simp (disch := first | exact znw_u | exact znw_i) only [zc_237, zs_237_0, zs_237_0n, zs_237_1, zs_237_2, zs_237_5, zs_237_7, zs_237_10, zh_237_2_2, zEC1 hc, e, zbk_v, zts_s, zts_n, List.cons_append, List.nil_append]
theorem h_237e2 {x1 : Int32} (hc : zCls h m w) (e : zEnd h m (zcall zP sv D 51 [.ref m, .int x1] h) N M (.inr 2) w1) : zEnd h m (zcall zP sv (D + 1) 237 [.ref m, .int x1] h) N M (.inl (some (.int (-1001)))) w1 := by
  obtain ⟨h1, e, g⟩ := e
  refine ⟨h1, ?_, g⟩
  simp (disch := first | exact znw_u | exact znw_i) only [zc_237, zs_237_0, zs_237_0n, zs_237_1, zs_237_2, zs_237_5, zs_237_7, zs_237_10, zh_237_2_2, zEC1 hc, e, zbk_x, zh_237_2_2, zts_s, zts_n, List.cons_append, List.nil_append]
theorem h_238v {x1 : Int32} {y : Int32} (hc : zCls h m w) (e : zEnd h m (zcall zP sv D 52 [.ref m, .int x1] h) N M (.inl (some (.int y))) w1) : zEnd h m (zcall zP sv (D + 1) 238 [.ref m, .int x1] h) N M (.inl (some (.int y))) w1 := by
  obtain ⟨h1, e, g⟩ := e
  refine ⟨h1, ?_, g⟩
  simp (disch := first | exact znw_u | exact znw_i) only [zc_238, zs_238_0, zs_238_0n, zs_238_1, zs_238_2, zs_238_5, zs_238_7, zs_238_10, zh_238_2_2, zEC1 hc, e, zbk_v, zts_s, zts_n, List.cons_append, List.nil_append]
theorem h_238e2 {x1 : Int32} (hc : zCls h m w) (e : zEnd h m (zcall zP sv D 52 [.ref m, .int x1] h) N M (.inr 2) w1) : zEnd h m (zcall zP sv (D + 1) 238 [.ref m, .int x1] h) N M (.inl (some (.int (-1001)))) w1 := by
  obtain ⟨h1, e, g⟩ := e
  refine ⟨h1, ?_, g⟩
  simp (disch := first | exact znw_u | exact znw_i) only [zc_238, zs_238_0, zs_238_0n, zs_238_1, zs_238_2, zs_238_5, zs_238_7, zs_238_10, zh_238_2_2, zEC1 hc, e, zbk_x, zh_238_2_2, zts_s, zts_n, List.cons_append, List.nil_append]
theorem h_239v {x1 : Int32} {y : Int32} (hc : zCls h m w) (e : zEnd h m (zcall zP sv D 53 [.ref m, .int x1] h) N M (.inl (some (.int y))) w1) : zEnd h m (zcall zP sv (D + 1) 239 [.ref m, .int x1] h) N M (.inl (some (.int y))) w1 := by
  obtain ⟨h1, e, g⟩ := e
  refine ⟨h1, ?_, g⟩
  simp (disch := first | exact znw_u | exact znw_i) only [zc_239, zs_239_0, zs_239_0n, zs_239_1, zs_239_2, zs_239_5, zs_239_7, zs_239_10, zh_239_2_2, zEC1 hc, e, zbk_v, zts_s, zts_n, List.cons_append, List.nil_append]
theorem h_239e2 {x1 : Int32} (hc : zCls h m w) (e : zEnd h m (zcall zP sv D 53 [.ref m, .int x1] h) N M (.inr 2) w1) : zEnd h m (zcall zP sv (D + 1) 239 [.ref m, .int x1] h) N M (.inl (some (.int (-1001)))) w1 := by
  obtain ⟨h1, e, g⟩ := e
  refine ⟨h1, ?_, g⟩
  simp (disch := first | exact znw_u | exact znw_i) only [zc_239, zs_239_0, zs_239_0n, zs_239_1, zs_239_2, zs_239_5, zs_239_7, zs_239_10, zh_239_2_2, zEC1 hc, e, zbk_x, zh_239_2_2, zts_s, zts_n, List.cons_append, List.nil_append]
theorem h_240v {x1 : Int32} {y : Int32} (hc : zCls h m w) (e : zEnd h m (zcall zP sv D 54 [.ref m, .int x1] h) N M (.inl (some (.int y))) w1) : zEnd h m (zcall zP sv (D + 1) 240 [.ref m, .int x1] h) N M (.inl (some (.int y))) w1 := by
  obtain ⟨h1, e, g⟩ := e
  refine ⟨h1, ?_, g⟩
  simp (disch := first | exact znw_u | exact znw_i) only [zc_240, zs_240_0, zs_240_0n, zs_240_1, zs_240_2, zs_240_5, zs_240_7, zs_240_10, zs_240_12, zs_240_15, zh_240_2_2, zh_240_2_4, zEC1 hc, e, zbk_v, zts_s, zts_n, List.cons_append, List.nil_append]
theorem h_240e2 {x1 : Int32} (hc : zCls h m w) (e : zEnd h m (zcall zP sv D 54 [.ref m, .int x1] h) N M (.inr 2) w1) : zEnd h m (zcall zP sv (D + 1) 240 [.ref m, .int x1] h) N M (.inl (some (.int (-1001)))) w1 := by
  obtain ⟨h1, e, g⟩ := e
  refine ⟨h1, ?_, g⟩
  simp (disch := first | exact znw_u | exact znw_i) only [zc_240, zs_240_0, zs_240_0n, zs_240_1, zs_240_2, zs_240_5, zs_240_7, zs_240_10, zs_240_12, zs_240_15, zh_240_2_2, zh_240_2_4, zEC1 hc, e, zbk_x, zh_240_2_2, zts_s, zts_n, List.cons_append, List.nil_append]
theorem h_240e4 {x1 : Int32} (hc : zCls h m w) (e : zEnd h m (zcall zP sv D 54 [.ref m, .int x1] h) N M (.inr 4) w1) : zEnd h m (zcall zP sv (D + 1) 240 [.ref m, .int x1] h) N M (.inl (some (.int (-1002)))) w1 := by
  obtain ⟨h1, e, g⟩ := e
  refine ⟨h1, ?_, g⟩
  simp (disch := first | exact znw_u | exact znw_i) only [zc_240, zs_240_0, zs_240_0n, zs_240_1, zs_240_2, zs_240_5, zs_240_7, zs_240_10, zs_240_12, zs_240_15, zh_240_2_2, zh_240_2_4, zEC1 hc, e, zbk_x, zh_240_2_4, zts_s, zts_n, List.cons_append, List.nil_append]
theorem h_241v {x1 : Int32} {x2 : Int32} {y : Int32} (hc : zCls h m w) (e : zEnd h m (zcall zP sv D 55 [.ref m, .int x1, .int x2] h) N M (.inl (some (.int y))) w1) : zEnd h m (zcall zP sv (D + 1) 241 [.ref m, .int x1, .int x2] h) N M (.inl (some (.int y))) w1 := by
  obtain ⟨h1, e, g⟩ := e
  refine ⟨h1, ?_, g⟩
  simp (disch := first | exact znw_u | exact znw_i) only [zc_241, zs_241_0, zs_241_0n, zs_241_1, zs_241_2, zs_241_3, zs_241_6, zs_241_8, zs_241_11, zh_241_3_2, zEC1 hc, e, zbk_v, zts_s, zts_n, List.cons_append, List.nil_append]
theorem h_241e2 {x1 : Int32} {x2 : Int32} (hc : zCls h m w) (e : zEnd h m (zcall zP sv D 55 [.ref m, .int x1, .int x2] h) N M (.inr 2) w1) : zEnd h m (zcall zP sv (D + 1) 241 [.ref m, .int x1, .int x2] h) N M (.inl (some (.int (-1001)))) w1 := by
  obtain ⟨h1, e, g⟩ := e
  refine ⟨h1, ?_, g⟩
  simp (disch := first | exact znw_u | exact znw_i) only [zc_241, zs_241_0, zs_241_0n, zs_241_1, zs_241_2, zs_241_3, zs_241_6, zs_241_8, zs_241_11, zh_241_3_2, zEC1 hc, e, zbk_x, zh_241_3_2, zts_s, zts_n, List.cons_append, List.nil_append]
theorem h_242v {x1 : Int32} {x2 : Int32} {y : Int32} (hc : zCls h m w) (e : zEnd h m (zcall zP sv D 56 [.ref m, .int x1, .int x2] h) N M (.inl (some (.int y))) w1) : zEnd h m (zcall zP sv (D + 1) 242 [.ref m, .int x1, .int x2] h) N M (.inl (some (.int y))) w1 := by
  obtain ⟨h1, e, g⟩ := e
  refine ⟨h1, ?_, g⟩
  simp (disch := first | exact znw_u | exact znw_i) only [zc_242, zs_242_0, zs_242_0n, zs_242_1, zs_242_2, zs_242_3, zs_242_6, zs_242_8, zs_242_11, zh_242_3_2, zEC1 hc, e, zbk_v, zts_s, zts_n, List.cons_append, List.nil_append]
theorem h_242e2 {x1 : Int32} {x2 : Int32} (hc : zCls h m w) (e : zEnd h m (zcall zP sv D 56 [.ref m, .int x1, .int x2] h) N M (.inr 2) w1) : zEnd h m (zcall zP sv (D + 1) 242 [.ref m, .int x1, .int x2] h) N M (.inl (some (.int (-1001)))) w1 := by
  obtain ⟨h1, e, g⟩ := e
  refine ⟨h1, ?_, g⟩
  simp (disch := first | exact znw_u | exact znw_i) only [zc_242, zs_242_0, zs_242_0n, zs_242_1, zs_242_2, zs_242_3, zs_242_6, zs_242_8, zs_242_11, zh_242_3_2, zEC1 hc, e, zbk_x, zh_242_3_2, zts_s, zts_n, List.cons_append, List.nil_append]
theorem h_243v {x1 : Int32} {x2 : Int32} {p : List Int32} (hc : zCls h m w) (e : zEnW h m (zcall zP sv D 57 [.ref m, .int x1, .int x2] h) p w1) : zEnW h m (zcall zP sv (D + 1) 243 [.ref m, .int x1, .int x2] h) p w1 := by
  obtain ⟨h1, e, g⟩ := e
  refine ⟨h1, ?_, g⟩
  simp (disch := first | exact znw_u | exact znw_i) only [zc_243, zs_243_0, zs_243_0n, zs_243_1, zs_243_2, zs_243_3, zs_243_6, zs_243_8, zs_243_11, zh_243_3_2, zEC1 hc, e, zbk_v, zts_s, zts_n, List.cons_append, List.nil_append]
theorem h_243e2 {x1 : Int32} {x2 : Int32} (hc : zCls h m w) (e : zEnd h m (zcall zP sv D 57 [.ref m, .int x1, .int x2] h) N M (.inr 2) w1) : zEnd h m (zcall zP sv (D + 1) 243 [.ref m, .int x1, .int x2] h) N M (.inl (some (.int (-1001)))) w1 := by
  obtain ⟨h1, e, g⟩ := e
  refine ⟨h1, ?_, g⟩
  simp (disch := first | exact znw_u | exact znw_i) only [zc_243, zs_243_0, zs_243_0n, zs_243_1, zs_243_2, zs_243_3, zs_243_6, zs_243_8, zs_243_11, zh_243_3_2, zEC1 hc, e, zbk_x, zh_243_3_2, zts_s, zts_n, List.cons_append, List.nil_append]
theorem h_244v {x1 : Int32} {p : List Int32} (hc : zCls h m w) (e : zEnW h m (zcall zP sv D 58 [.ref m, .int x1] h) p w1) : zEnW h m (zcall zP sv (D + 1) 244 [.ref m, .int x1] h) p w1 := by
  obtain ⟨h1, e, g⟩ := e
  refine ⟨h1, ?_, g⟩
  simp (disch := first | exact znw_u | exact znw_i) only [zc_244, zs_244_0, zs_244_0n, zs_244_1, zs_244_2, zs_244_5, zs_244_7, zs_244_10, zh_244_2_2, zEC1 hc, e, zbk_v, zts_s, zts_n, List.cons_append, List.nil_append]
theorem h_244e2 {x1 : Int32} (hc : zCls h m w) (e : zEnd h m (zcall zP sv D 58 [.ref m, .int x1] h) N M (.inr 2) w1) : zEnd h m (zcall zP sv (D + 1) 244 [.ref m, .int x1] h) N M (.inl (some (.int (-1001)))) w1 := by
  obtain ⟨h1, e, g⟩ := e
  refine ⟨h1, ?_, g⟩
  simp (disch := first | exact znw_u | exact znw_i) only [zc_244, zs_244_0, zs_244_0n, zs_244_1, zs_244_2, zs_244_5, zs_244_7, zs_244_10, zh_244_2_2, zEC1 hc, e, zbk_x, zh_244_2_2, zts_s, zts_n, List.cons_append, List.nil_append]
theorem h_245v {x1 : Int32} {y : Int32} (hc : zCls h m w) (e : zEnd h m (zcall zP sv D 59 [.ref m, .int x1] h) N M (.inl (some (.int y))) w1) : zEnd h m (zcall zP sv (D + 1) 245 [.ref m, .int x1] h) N M (.inl (some (.int y))) w1 := by
  obtain ⟨h1, e, g⟩ := e
  refine ⟨h1, ?_, g⟩
  simp (disch := first | exact znw_u | exact znw_i) only [zc_245, zs_245_0, zs_245_0n, zs_245_1, zs_245_2, zs_245_5, zs_245_7, zs_245_10, zh_245_2_2, zEC1 hc, e, zbk_v, zts_s, zts_n, List.cons_append, List.nil_append]
theorem h_245e2 {x1 : Int32} (hc : zCls h m w) (e : zEnd h m (zcall zP sv D 59 [.ref m, .int x1] h) N M (.inr 2) w1) : zEnd h m (zcall zP sv (D + 1) 245 [.ref m, .int x1] h) N M (.inl (some (.int (-1001)))) w1 := by
  obtain ⟨h1, e, g⟩ := e
  refine ⟨h1, ?_, g⟩
  simp (disch := first | exact znw_u | exact znw_i) only [zc_245, zs_245_0, zs_245_0n, zs_245_1, zs_245_2, zs_245_5, zs_245_7, zs_245_10, zh_245_2_2, zEC1 hc, e, zbk_x, zh_245_2_2, zts_s, zts_n, List.cons_append, List.nil_append]
theorem h_246v {x1 : Int32} {y : Int32} (hc : zCls h m w) (e : zEnd h m (zcall zP sv D 60 [.ref m, .int x1] h) N M (.inl (some (.int y))) w1) : zEnd h m (zcall zP sv (D + 1) 246 [.ref m, .int x1] h) N M (.inl (some (.int y))) w1 := by
  obtain ⟨h1, e, g⟩ := e
  refine ⟨h1, ?_, g⟩
  simp (disch := first | exact znw_u | exact znw_i) only [zc_246, zs_246_0, zs_246_0n, zs_246_1, zs_246_2, zs_246_5, zs_246_7, zs_246_10, zh_246_2_4, zEC1 hc, e, zbk_v, zts_s, zts_n, List.cons_append, List.nil_append]
theorem h_246e4 {x1 : Int32} (hc : zCls h m w) (e : zEnd h m (zcall zP sv D 60 [.ref m, .int x1] h) N M (.inr 4) w1) : zEnd h m (zcall zP sv (D + 1) 246 [.ref m, .int x1] h) N M (.inl (some (.int (-1001)))) w1 := by
  obtain ⟨h1, e, g⟩ := e
  refine ⟨h1, ?_, g⟩
  simp (disch := first | exact znw_u | exact znw_i) only [zc_246, zs_246_0, zs_246_0n, zs_246_1, zs_246_2, zs_246_5, zs_246_7, zs_246_10, zh_246_2_4, zEC1 hc, e, zbk_x, zh_246_2_4, zts_s, zts_n, List.cons_append, List.nil_append]
theorem h_247v  {y : UInt64} (hc : zCls h m w) (e : zEnd h m (zcall zP sv D 62 [.ref m] h) N M (.inl (some (.double y))) w1) : zEnd h m (zcall zP sv (D + 1) 247 [.ref m] h) N M (.inl (some (.double y))) w1 := by
  obtain ⟨h1, e, g⟩ := e
  refine ⟨h1, ?_, g⟩
  simp (disch := first | exact znw_u | exact znw_i) only [zc_247, zs_247_0, zs_247_0n, zs_247_1, zs_247_4, zs_247_6, zs_247_9, zh_247_1_5, zEC1 hc, e, zbk_v, zts_s, zts_n, List.cons_append, List.nil_append]
theorem h_247e5  (hc : zCls h m w) (e : zEnd h m (zcall zP sv D 62 [.ref m] h) N M (.inr 5) w1) : zEnd h m (zcall zP sv (D + 1) 247 [.ref m] h) N M (.inl (some (.double 13875388141788987392))) w1 := by
  obtain ⟨h1, e, g⟩ := e
  refine ⟨h1, ?_, g⟩
  simp (disch := first | exact znw_u | exact znw_i) only [zc_247, zs_247_0, zs_247_0n, zs_247_1, zs_247_4, zs_247_6, zs_247_9, zh_247_1_5, zEC1 hc, e, zbk_x, zh_247_1_5, zts_s, zts_n, List.cons_append, List.nil_append]
theorem h_248v {x1 : Int32} {y : UInt32} (hc : zCls h m w) (e : zEnd h m (zcall zP sv D 63 [.ref m, .int x1] h) N M (.inl (some (.float y))) w1) : zEnd h m (zcall zP sv (D + 1) 248 [.ref m, .int x1] h) N M (.inl (some (.float y))) w1 := by
  obtain ⟨h1, e, g⟩ := e
  refine ⟨h1, ?_, g⟩
  simp (disch := first | exact znw_u | exact znw_i) only [zc_248, zs_248_0, zs_248_0n, zs_248_1, zs_248_2, zs_248_5, zs_248_7, zs_248_9, zh_248_2_2, zEC1 hc, e, zbk_v, zts_s, zts_n, List.cons_append, List.nil_append]
theorem h_248e2 {x1 : Int32} (hc : zCls h m w) (e : zEnd h m (zcall zP sv D 63 [.ref m, .int x1] h) N M (.inr 2) w1) : zEnd h m (zcall zP sv (D + 1) 248 [.ref m, .int x1] h) N M (.inl (some (.float 3296346112))) w1 := by
  obtain ⟨h1, e, g⟩ := e
  refine ⟨h1, ?_, g⟩
  simp (disch := first | exact znw_u | exact znw_i) only [zc_248, zs_248_0, zs_248_0n, zs_248_1, zs_248_2, zs_248_5, zs_248_7, zs_248_9, zh_248_2_2, zEC1 hc, e, zbk_x, zh_248_2_2, zts_s, zts_n, List.cons_append, List.nil_append]
theorem h_249v  {y : Int32} (hc : zCls h m w) (e : zEnd h m (zcall zP sv D 65 [.ref m] h) N M (.inl (some (.int y))) w1) : zEnd h m (zcall zP sv (D + 1) 249 [.ref m] h) N M (.inl (some (.int y))) w1 := by
  obtain ⟨h1, e, g⟩ := e
  refine ⟨h1, ?_, g⟩
  simp (disch := first | exact znw_u | exact znw_i) only [zc_249, zs_249_0, zs_249_0n, zs_249_1, zs_249_4, zs_249_6, zs_249_9, zh_249_1_4, zEC1 hc, e, zbk_v, zts_s, zts_n, List.cons_append, List.nil_append]
theorem h_249e4  (hc : zCls h m w) (e : zEnd h m (zcall zP sv D 65 [.ref m] h) N M (.inr 4) w1) : zEnd h m (zcall zP sv (D + 1) 249 [.ref m] h) N M (.inl (some (.int (-1001)))) w1 := by
  obtain ⟨h1, e, g⟩ := e
  refine ⟨h1, ?_, g⟩
  simp (disch := first | exact znw_u | exact znw_i) only [zc_249, zs_249_0, zs_249_0n, zs_249_1, zs_249_4, zs_249_6, zs_249_9, zh_249_1_4, zEC1 hc, e, zbk_x, zh_249_1_4, zts_s, zts_n, List.cons_append, List.nil_append]
theorem h_250v  {y : Int32} (hc : zCls h m w) (e : zEnd h m (zcall zP sv D 67 [.ref m] h) N M (.inl (some (.int y))) w1) : zEnd h m (zcall zP sv (D + 1) 250 [.ref m] h) N M (.inl (some (.int y))) w1 := by
  obtain ⟨h1, e, g⟩ := e
  refine ⟨h1, ?_, g⟩
  simp (disch := first | exact znw_u | exact znw_i) only [zc_250, zs_250_0, zs_250_0n, zs_250_1, zs_250_4, zs_250_6, zs_250_9, zh_250_1_0, zEC1 hc, e, zbk_v, zts_s, zts_n, List.cons_append, List.nil_append]
theorem h_250e0  (hc : zCls h m w) (e : zEnd h m (zcall zP sv D 67 [.ref m] h) N M (.inr 0) w1) : zEnd h m (zcall zP sv (D + 1) 250 [.ref m] h) N M (.inl (some (.int (-1001)))) w1 := by
  obtain ⟨h1, e, g⟩ := e
  refine ⟨h1, ?_, g⟩
  simp (disch := first | exact znw_u | exact znw_i) only [zc_250, zs_250_0, zs_250_0n, zs_250_1, zs_250_4, zs_250_6, zs_250_9, zh_250_1_0, zEC1 hc, e, zbk_x, zh_250_1_0, zts_s, zts_n, List.cons_append, List.nil_append]
theorem h_251v  {y : Int32} (hc : zCls h m w) (e : zEnd h m (zcall zP sv D 69 [.ref m] h) N M (.inl (some (.int y))) w1) : zEnd h m (zcall zP sv (D + 1) 251 [.ref m] h) N M (.inl (some (.int y))) w1 := by
  obtain ⟨h1, e, g⟩ := e
  refine ⟨h1, ?_, g⟩
  simp (disch := first | exact znw_u | exact znw_i) only [zc_251, zs_251_0, zs_251_0n, zs_251_1, zs_251_4, zs_251_6, zs_251_9, zh_251_1_0, zEC1 hc, e, zbk_v, zts_s, zts_n, List.cons_append, List.nil_append]
theorem h_251e0  (hc : zCls h m w) (e : zEnd h m (zcall zP sv D 69 [.ref m] h) N M (.inr 0) w1) : zEnd h m (zcall zP sv (D + 1) 251 [.ref m] h) N M (.inl (some (.int (-1001)))) w1 := by
  obtain ⟨h1, e, g⟩ := e
  refine ⟨h1, ?_, g⟩
  simp (disch := first | exact znw_u | exact znw_i) only [zc_251, zs_251_0, zs_251_0n, zs_251_1, zs_251_4, zs_251_6, zs_251_9, zh_251_1_0, zEC1 hc, e, zbk_x, zh_251_1_0, zts_s, zts_n, List.cons_append, List.nil_append]
theorem h_252v {x1 : Int32} {x2 : Int32} {y : Int32} (hc : zCls h m w) (e : zEnd h m (zcall zP sv D 31 [.ref m, .int x1, .int x2] h) N M (.inl (some (.int y))) w1) : zEnd h m (zcall zP sv (D + 1) 252 [.ref m, .int x1, .int x2] h) N M (.inl (some (.int y))) w1 := by
  obtain ⟨h1, e, g⟩ := e
  refine ⟨h1, ?_, g⟩
  simp (disch := first | exact znw_u | exact znw_i) only [zc_252, zs_252_0, zs_252_0n, zs_252_1, zs_252_2, zs_252_3, zs_252_6, zs_252_8, zs_252_10, zh_252_3_1, zEC1 hc, e, zbk_v, zts_s, zts_n, List.cons_append, List.nil_append]
theorem h_252e1 {x1 : Int32} {x2 : Int32} (hc : zCls h m w) (e : zEnd h m (zcall zP sv D 31 [.ref m, .int x1, .int x2] h) N M (.inr 1) w1) : zEnd h m (zcall zP sv (D + 1) 252 [.ref m, .int x1, .int x2] h) N M (.inl (some (.int (nI 100000)))) w1 := by
  obtain ⟨h1, e, g⟩ := e
  refine ⟨h1, ?_, g⟩
  simp (disch := first | exact znw_u | exact znw_i) only [zc_252, zs_252_0, zs_252_0n, zs_252_1, zs_252_2, zs_252_3, zs_252_6, zs_252_8, zs_252_10, zh_252_3_1, zEC1 hc, e, zbk_x, zh_252_3_1, zts_s, zts_n, List.cons_append, List.nil_append]
end ZHL

section ZST
variable {sv : Nat → Value} {d : Nat}
/-- a sign of the first 128 -/
def yas7 (x : Int32) : Prop := ∃ k, k < 128 ∧ x = nI k
theorem yas7d : ∀ k, k < 128 → zty 6 (.int (nI k)) = true ∧ zty 7 (.int (nI k)) = true ∧ ycr (nI k) = nI k ∧ ynr (nI k) = nI k := by decide +kernel
theorem yas7_ty {x : Int32} (h : yas7 x) : zty 6 (.int x) = true := by
  obtain ⟨k, hk, rfl⟩ := h
  exact (yas7d k hk).1
theorem yas7_7 {x : Int32} (h : yas7 x) : zty 7 (.int x) = true := by
  obtain ⟨k, hk, rfl⟩ := h
  exact (yas7d k hk).2.1
theorem yas7_c {x : Int32} (h : yas7 x) : ycr x = x := by
  obtain ⟨k, hk, rfl⟩ := h
  exact (yas7d k hk).2.2.1
theorem yas7_n {x : Int32} (h : yas7 x) : ynr x = x := by
  obtain ⟨k, hk, rfl⟩ := h
  exact (yas7d k hk).2.2.2
/-- a String at s with its bytes at a: made in the run, or a constant -/
def zStr (h : zH) (s a : Nat) (bs : List Int32) : Prop := ((h.1 s = (13, [.ref a, .int 0, .int 0, .int 0]) ∧ h.1 a = (24, bs.map Value.int)) ∨ (h.1 s = (19, [.ref a, .int 0]) ∧ h.1 a = (27, bs.map Value.int))) ∧ s < h.2.1 ∧ a < h.2.1 ∧ bs.length ≤ 60 ∧ ∀ x, x ∈ bs → yas7 x
variable {h : zH} {s a r v : Nat} {bs B o : List Int32}
theorem zStr_rc (hs : zStr h s a bs) (X : zR) : zrc (h.1 s) 13 X = X := by
  rcases hs.1 with ⟨e, _⟩ | ⟨e, _⟩
  · rw [e]; exact zrc_k
  · rw [e]; exact zrc_19
theorem zStr_f0 (hs : zStr h s a bs) (K : Value → zR) : zfld (h.1 s) 13 0 K = K (.ref a) := by
  rcases hs.1 with ⟨e, _⟩ | ⟨e, _⟩
  · rw [e]; exact zf_13_0
  · rw [e]; exact zf_19_0
theorem zStr_f1 (hs : zStr h s a bs) (K : Value → zR) : zfld (h.1 s) 13 1 K = K (.int 0) := by
  rcases hs.1 with ⟨e, _⟩ | ⟨e, _⟩
  · rw [e]; exact zf_13_1
  · rw [e]; exact zf_19_1
theorem zStr_ln (hs : zStr h s a bs) (K : Int32 → zR) : zaln (h.1 a) K = K (nI bs.length) := by
  rcases hs.1 with ⟨_, e⟩ | ⟨_, e⟩
  · rw [e, zaln_k (by decide), List.length_map]
  · rw [e, zaln_k (by decide), List.length_map]
theorem ygetD {i : Nat} (hi : i < bs.length) : bs.getD i 0 = bs[i] := by
  rw [List.getD_eq_getElem?_getD, List.getElem?_eq_getElem hi]
  rfl
theorem zStr_el {i : Nat} (hs : zStr h s a bs) (hi : i < bs.length) (K : Value → zR) : zael (h.1 a) 24 (nI i) K = K (.int (bs.getD i 0)) := by
  have hl := hs.2.2.2.1
  rw [ygetD hi]
  rcases hs.1 with ⟨_, e⟩ | ⟨_, e⟩
  · rw [e]; exact zael_r hi (by omega)
  · rw [e, zael_27]; exact zael_r hi (by omega)
theorem zStr_as {i : Nat} (hs : zStr h s a bs) (hi : i < bs.length) : yas7 (bs.getD i 0) := by
  rw [ygetD hi]
  exact hs.2.2.2.2 _ (List.getElem_mem hi)
theorem zty_60 : zty 6 (.int 0) = true := rfl
theorem s_197 (hz : sv 0 = .int (nI 1)) (hs : zStr h s a bs) : zcall zP sv (d + 1) 197 [.ref s] h = some (.inl (some (.int 0)), h) := by
  simp only [zc_197, zs_197_0, zs_197_3, zs_197_6, zs_197_6n, zs_197_7, zs_197_10, zs_197_13, zs_197_14, hz, nI_1e0, zStr_f1 hs, zty_60, zgd_t, ↓reduceIte]
theorem s_198 (hz : sv 0 = .int (nI 1)) (hs : zStr h s a bs) : zcall zP sv (d + 1) 198 [.ref s] h = some (.inl (some (.int (nI 1))), h) := by
  simp only [zc_198, zs_198_0, zs_198_3, zs_198_6, zs_198_6n, zs_198_7, zs_198_10, zs_198_13, zs_198_14, zs_198_17, zs_198_18, hz, nI_1e0, zStr_f1 hs, zty_51, zgd_t, ↓reduceIte]
theorem s_196 (hz : sv 0 = .int (nI 1)) (hs : zStr h s a bs) : zcall zP sv (d + 2) 196 [.ref s] h = some (.inl (some (.int (nI bs.length))), h) := by
  have e := s_197 (d := d) hz hs
  simp (disch := first | exact znw_u | exact znw_i) only [zc_196, zs_196_0, zs_196_0n, zs_196_1, zs_196_4, zs_196_5, zs_196_5n, zs_196_6, zs_196_9, zs_196_10, zStr_f0 hs, zStr_ln hs, zStr_rc hs, e, zsh_r, zbk_v, zts_s, List.cons_append, List.nil_append]
theorem s_18 {n L : Nat} (h3' : zty 4 (sv 3) = true) (hn : n < L) (hL : L < 2 ^ 30) : zcall zP sv (d + 2) 18 [.int (nI n), .int (nI L)] h = some (.inl none, h) := by
  have c0 : ¬ nI n < 0 := nI_pos (by omega)
  have c1 : nI n < nI L := nI_lt hn (by omega)
  have e19 : zcall zP sv (d + 1) 19 [.int (nI n), .int (nI L), sv 3] h = some (.inl (some (.int (nI n))), h) := by
    have zc : zcall zP sv (d + 1) 19 [.int (nI n), .int (nI L), sv 3] h = zrun zP sv (zcall zP sv d) 19 0 [.val (.int (nI n)), .val (.int (nI L)), .val (sv 3)] [] h := by
      cases hz : sv 3 with
      | null => exact zcall_s (n := 3) rfl rfl (Nat.le_of_ble_eq_true rfl)
      | ref a => exact zcall_s (n := 3) rfl rfl (Nat.le_of_ble_eq_true rfl)
      | int x => rw [hz] at h3'; cases h3'
      | long x => rw [hz] at h3'; cases h3'
      | float x => rw [hz] at h3'; cases h3'
      | double x => rw [hz] at h3'; cases h3'
      | retAddr x => rw [hz] at h3'; cases h3'
    rw [zc]
    simp (disch := first | exact znw_u | exact znw_i) only [zs_19_0, zs_19_1, zs_19_4, zs_19_5, zs_19_6, zs_19_16, zs_19_17, if_neg c0, if_pos c1]
  simp (disch := first | exact znw_u | exact znw_i) only [zc_18, zs_18_0, zs_18_1, zs_18_2, zs_18_5, zs_18_8, zs_18_9, e19, zbk_v, zts_s, List.cons_append, List.nil_append]
theorem s_200 {i : Nat} (h3' : zty 4 (sv 3) = true) (hs : zStr h s a bs) (hi : i < bs.length) : zcall zP sv (d + 3) 200 [.ref a, .int (nI i)] h = some (.inl (some (.int (bs.getD i 0))), h) := by
  have hl := hs.2.2.2.1
  have e18 := s_18 (d := d) (h := h) h3' hi (by omega)
  have q := zStr_as hs hi
  have e3 : ((bs.getD i 0 &&& nI 255).toUInt32 % 65536).toInt32 = bs.getD i 0 := yas7_c q
  have z7 := yas7_7 q
  simp (disch := first | exact znw_u | exact znw_i) only [zc_200, zs_200_0, zs_200_1, zs_200_1n, zs_200_2, zs_200_3, zs_200_6, zs_200_6n, zs_200_7, zs_200_8, zs_200_9, zs_200_12, zs_200_13, zs_200_14, zStr_ln hs, e18, zStr_el hs hi, e3, z7, zgd_t, zbk_v, zts_n, List.cons_append, List.nil_append]
theorem s_199 {i : Nat} (hz : sv 0 = .int (nI 1)) (h3' : zty 4 (sv 3) = true) (hs : zStr h s a bs) (hi : i < bs.length) : zcall zP sv (d + 4) 199 [.ref s, .int (nI i)] h = some (.inl (some (.int (bs.getD i 0))), h) := by
  have e1 : zcall zP sv (d + 3) 198 [.ref s] h = _ := s_198 (d := d + 2) hz hs
  have e2 := s_200 (d := d) h3' hs hi
  have z7 := yas7_7 (zStr_as hs hi)
  simp (disch := first | exact znw_u | exact znw_i) only [zc_199, zs_199_0, zs_199_0n, zs_199_1, zs_199_4, zs_199_7, zs_199_7n, zs_199_8, zs_199_11, zs_199_12, zs_199_15, zs_199_16, zs_199_16n, zs_199_17, zs_199_20, zStr_rc hs, zStr_f0 hs, e1, nI_1e0, e2, z7, zgd_t, zbk_v, zts_s, ↓reduceIte, List.cons_append, List.nil_append]
theorem s_204 (hz : sv 0 = .int (nI 1)) (hb : zBl h r v B o) (hs : zStr h s a bs) : zcall zP sv (d + 2) 204 [.ref r, .ref s] h = some (.inl none, h) := by
  obtain ⟨⟨u, e⟩, _⟩ := hb
  have e1 := s_197 (d := d) hz hs
  simp (disch := first | exact znw_u | exact znw_i) only [zc_204, zs_204_0, zs_204_3, zs_204_6, zs_204_6n, zs_204_7, zs_204_10, zs_204_10n, zs_204_11, zs_204_14, zs_204_17, zs_204_17n, zs_204_21, hz, nI_1e0, e, zrc_2, zf_2_0, zp_2_0, zp_2_0n, zf_2_1, zp_2_10, zp_2_11, zf_2_2, zp_2_20, zp_2_21, zf_2_3, zp_2_3, zStr_rc hs, e1, zbk_v, zts_s, ↓reduceIte, List.cons_append, List.nil_append]
theorem zcopy_g {pc a b n p : Nat} {ls : List Slot} {st : List Value} {h : zH} {va vb : List Value} (ha : zkk 24 (h.1 a).1 = true) (hv : (h.1 a).2 = va) (hb : h.1 b = (24, vb)) (hab : a ≠ b) (hn : n ≤ va.length) (hm : p + n ≤ vb.length) (h3 : p + n < 2 ^ 31) (hst : st.length ≤ 4) (hty : va.all (zty 6) = true) : zcopy pc ls (.int (nI n) :: .int (nI p) :: .ref b :: .int 0 :: .ref a :: st) h = zgo pc ls st (zup h b (24, vb.take p ++ (va.take n ++ vb.drop (p + n)))) := by
  have z0 : (0 : Int32).toNatClampNeg = 0 := rfl
  have zi : ¬ (0 : Int32) < 0 := by decide
  unfold zcopy
  simp only [hb, hv, z0, nI_clamp (show n < 2 ^ 31 by omega), nI_clamp (show p < 2 ^ 31 by omega), Nat.zero_add, List.drop_zero]
  rw [if_pos ⟨ha, trivial, hab, zi, nI_pos (by omega), nI_pos (by omega), hn, hm, hst, hty⟩]
theorem zStr_kk (hs : zStr h s a bs) : zkk 24 (h.1 a).1 = true ∧ (h.1 a).2 = bs.map Value.int := by
  rcases hs.1 with ⟨_, e⟩ | ⟨_, e⟩
  · rw [e]; exact ⟨rfl, rfl⟩
  · rw [e]; exact ⟨rfl, rfl⟩
theorem s_205 {p : Nat} (hz : sv 0 = .int (nI 1)) (hs : zStr h s a bs) (hv : h.1 v = (24, B.map Value.int)) (hav : a ≠ v) (hp : p + bs.length ≤ B.length) (hB : B.length ≤ 1000) : zcall zP sv (d + 2) 205 [.ref s, .ref v, .int (nI p), .int 0] h = some (.inl none, zup h v (24, (yput B p bs).map Value.int)) := by
  obtain ⟨k1, k2⟩ := zStr_kk hs
  have e1 := s_197 (d := d) hz hs
  have hlb : (bs.map Value.int).length = bs.length := List.length_map ..
  have hcp := zcopy_g (pc := 25) (n := bs.length) (p := p) (ls := [.val (.ref s), .val (.ref v), .val (.int (nI p)), .val (.int 0)]) (st := []) k1 k2 hv hav (by rw [hlb]; exact Nat.le_refl _) (by rw [List.length_map]; exact hp) (by omega) (Nat.zero_le _) (by
    rw [List.all_map, List.all_eq_true]
    exact fun x hx => yas7_ty (hs.2.2.2.2 x hx))
  have ek : (B.map Value.int).take p ++ ((bs.map Value.int).take bs.length ++ (B.map Value.int).drop (p + bs.length)) = (yput B p bs).map Value.int := by
    unfold yput
    rw [List.map_append, List.map_append, List.map_take, List.map_drop, List.take_of_length_le (Nat.le_of_eq hlb)]
  rw [ek] at hcp
  simp (disch := first | exact znw_u | exact znw_i) only [zc_205, zs_205_0, zs_205_0n, zs_205_1, zs_205_4, zs_205_5, zs_205_8, zs_205_8n, zs_205_9, zs_205_12, zs_205_13, zs_205_13n, zs_205_14, zs_205_15, zs_205_16, zs_205_17, zs_205_17n, zs_205_18, zs_205_21, zs_205_25, zs_205_28, zs_205_28n, zs_205_29, zs_205_32, zs_205_33, zs_205_33n, zs_205_34, zs_205_35, zs_205_35n, zs_205_36, zs_205_39, zs_205_43, zStr_rc hs, zStr_f0 hs, zStr_ln hs, e1, zsh_l, zs_205_22, hcp, znx, zgo, zbk_v, zts_s, ↓reduceIte, List.cons_append, List.nil_append]
theorem s_203 {p : Nat} (hz : sv 0 = .int (nI 1)) (hb : zBl h r v B o) (hs : zStr h s a bs) (hav : a ≠ v) (hp : p + bs.length ≤ B.length) : zcall zP sv (d + 3) 203 [.ref r, .int (nI p), .ref s] h = some (.inl none, zup h v (24, (yput B p bs).map Value.int)) := by
  have e1 : zcall zP sv (d + 2) 204 [.ref r, .ref s] h = _ := s_204 (d := d) hz hb hs
  have rc : ∀ X : zR, zrc (h.1 r) 2 X = X := fun X => zBl_rc hb X
  obtain ⟨⟨u, e⟩, ev, _, _, _, hL, _⟩ := hb
  have e2 := s_205 (d := d) (p := p) hz hs ev hav hp hL
  simp (disch := first | exact znw_u | exact znw_i) only [zc_203, zs_203_0, zs_203_0n, zs_203_1, zs_203_1n, zs_203_2, zs_203_5, zs_203_5n, zs_203_6, zs_203_6n, zs_203_7, zs_203_10, zs_203_11, zs_203_11n, zs_203_12, zs_203_15, zs_203_18, e, zrc_2, zf_2_0, zp_2_0, zp_2_0n, zf_2_1, zp_2_10, zp_2_11, zf_2_2, zp_2_20, zp_2_21, zf_2_3, zp_2_3, zStr_rc hs, e1, e2, zbk_v, zts_n, List.cons_append, List.nil_append]
theorem zStr_ne (hs : zStr h s a bs) (hb : zBl h r v B o) : s ≠ r ∧ s ≠ v ∧ a ≠ r := by
  obtain ⟨k1, k2⟩ := zBl_k hb
  refine ⟨fun q => ?_, fun q => ?_, fun q => ?_⟩
  · subst q
    rcases hs.1 with ⟨e, _⟩ | ⟨e, _⟩
    · rw [e] at k1; exact absurd (show (13 : Nat) = 2 from k1) (by decide)
    · rw [e] at k1; exact absurd (show (19 : Nat) = 2 from k1) (by decide)
  · subst q
    rcases hs.1 with ⟨e, _⟩ | ⟨e, _⟩
    · rw [e] at k2; exact absurd (show (13 : Nat) = 24 from k2) (by decide)
    · rw [e] at k2; exact absurd (show (19 : Nat) = 24 from k2) (by decide)
  · subst q
    rcases hs.1 with ⟨_, e⟩ | ⟨_, e⟩
    · rw [e] at k1; exact absurd (show (24 : Nat) = 2 from k1) (by decide)
    · rw [e] at k1; exact absurd (show (27 : Nat) = 2 from k1) (by decide)
theorem zStr_q {h' : zH} (hs : zStr h s a bs) (h1 : h'.1 s = h.1 s) (h2 : h'.1 a = h.1 a) (h3 : h.2.1 ≤ h'.2.1) : zStr h' s a bs := by
  obtain ⟨z, s1, s2, s3⟩ := hs
  exact ⟨by rw [h1, h2]; exact z, Nat.lt_of_lt_of_le s1 h3, Nat.lt_of_lt_of_le s2 h3, s3⟩
theorem zStr_bo {h' : zH} {B' : List Int32} (hs : zStr h s a bs) (hb : zBl h r v B o) (hav : a ≠ v) (hz : zbo r v B B' h h') : zStr h' s a bs := by
  obtain ⟨n1, n2, n3⟩ := zStr_ne hs hb
  exact zStr_q hs (hz.1 s hs.2.1 n1 n2) (hz.1 a hs.2.2.1 n3 hav) hz.2.1
theorem ytake_put {B o bs : List Int32} (h1 : B.take o.length = o) : (yput B o.length bs).take (o ++ bs).length = o ++ bs := by
  unfold yput
  rw [h1, ← List.append_assoc]
  exact List.take_left' rfl
/-- the builder's append of a String -/
theorem s_201 (hz : sv 0 = .int (nI 1)) (hb : zBl h r v B o) (hs : zStr h s a bs) (hav : a ≠ v) (ho : o.length + bs.length ≤ 450) : zAd r v B o h (zcall zP sv (d + 5) 201 [.ref r, .ref s] h) (some (.ref r)) bs := by
  have hl := hs.2.2.2.1
  have e1 : zcall zP sv (d + 3) 196 [.ref s] h = _ := s_196 (d := d + 1) hz hs
  obtain ⟨h1, v1, B1, e2, b1, w1, f1, l1⟩ := d_4 (sv := sv) (d := d) hb ho
  have ne := zStr_ne hs hb
  have av1 : a ≠ v1 := by
    rcases w1 with rfl | q
    · exact hav
    · have := hs.2.2.1; omega
  have hs1 := zStr_bo hs hb hav f1
  have e3 := s_203 (d := d) (p := o.length) hz b1 hs1 av1 (by omega)
  have rc : ∀ X : zR, zrc (h.1 r) 2 X = X := fun X => zBl_rc hb X
  have rc1 : ∀ X : zR, zrc (h1.1 r) 2 X = X := fun X => zBl_rc b1 X
  obtain ⟨⟨u, e⟩, _⟩ := hb
  obtain ⟨⟨u1, g⟩, gv, ⟨b5, b6, b7⟩, b8, b9, b10, b11⟩ := b1
  have lp : (yput B1 o.length bs).length = B1.length := yput_len (by omega)
  have la : (o ++ bs).length = o.length + bs.length := List.length_append
  have er : (zup h1 v1 (24, (yput B1 o.length bs).map Value.int)).1 r = (2, [.ref v1, .int 0, .int u1, .int (nI o.length)]) := by rw [zup_ne (Ne.symm b7), g]
  have e202 : zcall zP sv (d + 4) 202 [.ref r, .ref s] h = some (.inl (some (.ref r)), zup (zup h1 v1 (24, (yput B1 o.length bs).map Value.int)) r (2, [.ref v1, .int 0, .int u1, .int (nI (o.length + bs.length))])) := by
    simp (disch := first | exact znw_u | exact znw_i) only [zc_202, zs_202_0, zs_202_0n, zs_202_1, zs_202_1n, zs_202_4, zs_202_4n, zs_202_9, zs_202_9n, zs_202_10, zs_202_13, zs_202_14, zs_202_14n, zs_202_15, zs_202_15n, zs_202_16, zs_202_19, zs_202_20, zs_202_21, zs_202_24, zs_202_24n, zs_202_25, zs_202_25n, zs_202_26, zs_202_29, zs_202_29n, zs_202_30, zs_202_33, zs_202_33n, zs_202_34, zs_202_35, zs_202_38, zs_202_39, zs_202_40, zs_202_43, zs_202_43n, zs_202_44, zs_202_44n, zStr_rc hs, e1, e, zrc_2, zf_2_0, zp_2_0, zp_2_0n, zf_2_1, zp_2_10, zp_2_11, zf_2_2, zp_2_20, zp_2_21, zf_2_3, zp_2_3, nI_add, rc, e2, g, rc1, e3, er, zbk_v, zts_s, zts_n, List.cons_append, List.nil_append]
  refine ⟨zup (zup h1 v1 (24, (yput B1 o.length bs).map Value.int)) r (2, [.ref v1, .int 0, .int u1, .int (nI (o.length + bs.length))]), v1, yput B1 o.length bs, ?_, ⟨⟨u1, by rw [zup_at, la]⟩, by rw [zup_ne b7, zup_at], ⟨b5, b6, b7⟩, by rw [lp, la]; omega, ytake_put b9, by rw [lp]; exact b10, fun x hx => (yput_mem hx).elim (b11 x) (fun q => yas7_ty (hs.2.2.2.2 x q))⟩, w1, ⟨fun q q1 q2 q3 => by rw [zup_ne q2, zup_ne (by omega), f1.1 q q1 q2 q3], f1.2.1, by rw [lp]; exact f1.2.2.1, by rw [lp]; exact f1.2.2.2.1, by rw [lp]; exact f1.2.2.2.2⟩⟩
  simp (disch := first | exact znw_u | exact znw_i) only [zc_201, zs_201_0, zs_201_0n, zs_201_1, zs_201_1n, zs_201_2, zs_201_5, zs_201_5n, zs_201_6, zs_201_6n, zs_201_7, zs_201_7n, rc, e202, zbk_v, zts_s, List.cons_append, List.nil_append]
theorem s_212 {L : Nat} (hL : L < 2 ^ 30) : zcall zP sv (d + 1) 212 [.int 0, .int (nI L)] h = some (.inl none, h) := by
  have c : ¬ nI L < 0 := nI_pos (by omega)
  simp (disch := first | exact znw_u | exact znw_i) only [zc_212, zs_212_0, zs_212_1, zs_212_2, zs_212_37, if_neg c]
theorem s_210 (hb : zBl h r v B o) : ∃ h', zcall zP sv (d + 3) 210 [.ref v, .int 0, .int (nI o.length)] h = some (.inl (some (.ref h.2.1)), h') ∧ h'.1 h.2.1 = (24, o.map Value.int) ∧ (∀ q, q < h.2.1 → h'.1 q = h.1 q) ∧ h'.2.1 = h.2.1 + 1 ∧ h'.2.2 = h.2.2 + o.length := by
  obtain ⟨⟨u, e⟩, ev, ⟨hr, hv, hvr⟩, ho, ht, hL, hty⟩ := hb
  have hl : (B.map Value.int).length = B.length := List.length_map ..
  have hall : (B.map Value.int).all (zty 6) = true := by
    rw [List.all_map, List.all_eq_true]
    exact hty
  by_cases c : o.length = B.length
  · have eB : o = B := by rw [← ht, c, List.take_length]
    subst eB
    have g1 : (znew h (24, o.map Value.int) (o.map Value.int).length).1 h.2.1 = (24, o.map Value.int) := by rw [zext_of, zext_0]
    have ck : ∀ X : zR, zck24 (24, o.map Value.int) X = X := fun X => if_pos rfl
    have cl : ∀ K : List Value → zR, zcle (24, o.map Value.int) K = K (o.map Value.int) := fun K => if_pos ⟨rfl, hall⟩
    refine ⟨znew h (24, o.map Value.int) (o.map Value.int).length, ?_, g1, fun q hq => by rw [zext_of, zext_lo hq], rfl, by show h.2.2 + _ = _; rw [hl]⟩
    simp (disch := first | exact znw_u | exact znw_i) only [zc_210, zs_210_0, zs_210_1, zs_210_4, zs_210_5, zs_210_5n, zs_210_6, zs_210_7, zs_210_10, zs_210_10n, zs_210_11, zs_210_12, zs_210_13, zs_210_16, zs_210_16n, zs_210_17, zs_210_17n, zs_210_18, zs_210_21, zs_210_24, zs_210_24n, ev, zaln_k (show 20 ≤ 24 by omega), hl, cl, g1, ck, ↓reduceIte, List.cons_append, List.nil_append]
  · have hlt : o.length < B.length := by omega
    have c1 : ¬ nI o.length = nI B.length := fun q => c ((nI_eq (by omega) (by omega)).mp q)
    have e212 : zcall zP sv (d + 1) 212 [.int 0, .int (nI o.length)] h = _ := s_212 (d := d) (by omega)
    obtain ⟨h1, hh1⟩ : ∃ h1, h1 = znew h (24, List.replicate o.length (.int 0)) o.length := ⟨_, rfl⟩
    have g1 : h1.1 h.2.1 = (24, List.replicate o.length (.int 0)) := by rw [hh1, zext_of, zext_0]
    have g2 : h1.1 v = (24, B.map Value.int) := by rw [hh1, zext_of, zext_lo hv, ev]
    have em : (if nI o.length < nI B.length then nI o.length else nI B.length) = nI o.length := if_pos (nI_lt hlt (by omega))
    have s0 : ∀ x : Int32, x - 0 = x := fun x => Int32.sub_zero x
    have hcp := zcopy_k (L := 0) (pc := 30) (ls := [.val (.ref v), .val (.int 0), .val (.int (nI o.length)), .val (.int (nI o.length)), .val (.ref h.2.1)]) (st := []) (h := h1) (n := o.length) g2 g1 (by omega) (by rw [hl]; exact ho) (by rw [List.length_replicate]; exact Nat.le_refl _) (by omega) (Nat.zero_le _) hall
    have ek : (B.map Value.int).take o.length ++ (List.replicate o.length (Value.int 0)).drop o.length = o.map Value.int := by
      rw [List.drop_of_length_le (by rw [List.length_replicate]; exact Nat.le_refl _), List.append_nil, ← List.map_take, ht]
    rw [ek] at hcp
    have e211 : zcall zP sv (d + 2) 211 [.ref v, .int 0, .int (nI o.length)] h = some (.inl (some (.ref h.2.1)), zup h1 h.2.1 (24, o.map Value.int)) := by
      simp (disch := first | exact znw_u | exact znw_i | exact znw_r) only [zc_211, zs_211_0, zs_211_1, zs_211_2, zs_211_5, zs_211_6, zs_211_7, zs_211_8, zs_211_9, zs_211_10, zs_211_12, zs_211_12n, zs_211_14, zs_211_14n, zs_211_15, zs_211_16, zs_211_16n, zs_211_18, zs_211_19, zs_211_19n, zs_211_20, zs_211_21, zs_211_22, zs_211_23, zs_211_24, zs_211_30, zs_211_30n, zs_211_32, zs_211_32n, e212, s0, znwa_k (show o.length ≤ 65536 by omega), ← hh1, g2, zaln_k (show 20 ≤ 24 by omega), hl, em, zs_211_27, hcp, znx, zgo, zbk_v, zts_n, List.cons_append, List.nil_append]
    refine ⟨zup h1 h.2.1 (24, o.map Value.int), ?_, zup_at, fun q hq => by rw [zup_ne (by omega), hh1, zext_of, zext_lo hq], by rw [hh1]; rfl, by rw [hh1]; rfl⟩
    simp (disch := first | exact znw_u | exact znw_i) only [zc_210, zs_210_0, zs_210_1, zs_210_4, zs_210_5, zs_210_5n, zs_210_6, zs_210_7, zs_210_10, zs_210_10n, zs_210_11, zs_210_12, zs_210_13, zs_210_16, zs_210_16n, zs_210_17, zs_210_17n, zs_210_18, zs_210_21, zs_210_24, zs_210_24n, ev, zaln_k (show 20 ≤ 24 by omega), hl, if_neg c1, e211, zbk_v, zts_s, ↓reduceIte, List.cons_append, List.nil_append]
theorem zBl_new (hb : zBl h r v B o) {h' : zH} (h1 : ∀ q, q < h.2.1 → h'.1 q = h.1 q) (h2 : h.2.1 ≤ h'.2.1) : zBl h' r v B o := by
  obtain ⟨⟨u, e⟩, ev, ⟨hr, hv, hvr⟩, h5⟩ := hb
  exact ⟨⟨u, by rw [h1 r hr, e]⟩, by rw [h1 v hv, ev], ⟨by omega, by omega, hvr⟩, h5⟩
theorem s_209 (hb : zBl h r v B o) : zcall zP sv (d + 1) 209 [.ref r] h = some (.inl (some (.ref v)), h) := by
  obtain ⟨⟨u, e⟩, _⟩ := hb
  simp only [zc_209, zs_209_0, zs_209_0n, zs_209_1, zs_209_4, zs_209_4n, e, zrc_2, zf_2_0, zp_2_0, zp_2_0n, zf_2_1, zp_2_10, zp_2_11, zf_2_2, zp_2_20, zp_2_21, zf_2_3, zp_2_3]
/-- the builder's toString -/
theorem s_206 (hz : sv 0 = .int (nI 1)) (hb : zBl h r v B o) : ∃ h', zcall zP sv (d + 6) 206 [.ref r] h = some (.inl (some (.ref h.2.1)), h') ∧ h'.1 h.2.1 = (13, [.ref (h.2.1 + 1), .int 0, .int 0, .int 0]) ∧ h'.1 (h.2.1 + 1) = (24, o.map Value.int) ∧ (∀ q, q < h.2.1 → h'.1 q = h.1 q) ∧ h'.2.1 = h.2.1 + 2 ∧ h'.2.2 = h.2.2 + (4 + o.length) := by
  obtain ⟨h1, hh1⟩ : ∃ h1, h1 = znew h (13, [.null, .int 0, .int 0, .int 0]) 4 := ⟨_, rfl⟩
  have l1 : ∀ q, q < h.2.1 → h1.1 q = h.1 q := fun q hq => by rw [hh1, zext_of, zext_lo hq]
  have g1 : h1.1 h.2.1 = (13, [.null, .int 0, .int 0, .int 0]) := by rw [hh1, zext_of, zext_0]
  have z1 : h1.2.1 = h.2.1 + 1 ∧ h1.2.2 = h.2.2 + 4 := by rw [hh1]; exact ⟨rfl, rfl⟩
  have hb1 := zBl_new hb l1 (by omega)
  have e209 : zcall zP sv (d + 3) 209 [.ref r] h1 = _ := s_209 (d := d + 2) hb1
  have e13 : zcall zP sv (d + 3) 13 [.ref r] h1 = _ := d_13 (d := d + 1) hb1
  have e8 : zcall zP sv (d + 3) 8 [.ref r] h1 = _ := d_8 (d := d + 2) hz hb1
  have rc1 : ∀ X : zR, zrc (h1.1 r) 2 X = X := fun X => zBl_rc hb1 X
  obtain ⟨⟨_, _⟩, _, ⟨hr, hv, _⟩, _⟩ := id hb
  obtain ⟨h2, hh2⟩ : ∃ h2, h2 = zup h1 h.2.1 (13, [.null, .int 0, .int 0, .int 0]) := ⟨_, rfl⟩
  have g2 : h2.1 h.2.1 = (13, [.null, .int 0, .int 0, .int 0]) := by rw [hh2, zup_at]
  have hb2 : zBl h2 r v B o := zBl_new hb (fun q hq => by rw [hh2, zup_ne (by omega), l1 q hq]) (by rw [hh2]; show h.2.1 ≤ h1.2.1; omega)
  obtain ⟨h3, e210, t1, t2, t3, t4⟩ := s_210 (sv := sv) (d := d) hb2
  have z2 : h2.2.1 = h.2.1 + 1 ∧ h2.2.2 = h.2.2 + 4 := by rw [hh2]; exact z1
  rw [z2.1] at t1 t3 e210
  have g3 : h3.1 h.2.1 = (13, [.null, .int 0, .int 0, .int 0]) := by rw [t2 _ (by omega), g2]
  have e208 : zcall zP sv (d + 4) 208 [.ref h.2.1, .ref r, .null] h1 = some (.inl none, zup h3 h.2.1 (13, [.ref (h.2.1 + 1), .int 0, .int 0, .int 0])) := by
    simp (disch := first | exact znw_u | exact znw_i) only [zc_208n, zs_208_0, zs_208_0n, zs_208_1, zs_208_4, zs_208_4n, zs_208_5, zs_208_8, zs_208_8n, zs_208_9, zs_208_9n, zs_208_10, zs_208_13, zs_208_15, zs_208_15n, zs_208_16, zs_208_19, zs_208_22, zs_208_22n, zs_208_23, zs_208_24, zs_208_27, zs_208_27n, zs_208_28, zs_208_28n, zs_208_29, zs_208_30, zs_208_32, zs_208_35, zs_208_35n, zs_208_38, zs_208_41, zs_208_44, zs_208_47, zs_208_47n, zs_208_48, zs_208_51, zs_208_54, zs_208_54n, zs_208_55, zs_208_55n, zs_208_56, zs_208_57, zs_208_79, zs_208_79n, zs_208_80, zs_208_81, zs_208_84, zs_208_84n, zs_208_85, zs_208_85n, zs_208_86, zs_208_87, zs_208_89, zs_208_90, zs_208_91, zs_208_94, zs_208_94n, zs_208_97, rc1, e209, e13, e8, nI_1e0, g1, zrc_13, zf_13_0, zp_13_0, zp_13_0n, zf_13_1, zp_13_10, zp_13_11, zf_13_2, zp_13_2, zf_13_3, zp_13_30, zp_13_31, ← hh2, e210, g3, zbk_v, zts_s, zts_n, ↓reduceIte, List.cons_append, List.nil_append]
  have rcs : ∀ X : zR, zrc (h1.1 h.2.1) 13 X = X := fun X => by rw [g1]; exact zrc_k
  have e207 : zcall zP sv (d + 5) 207 [.ref h.2.1, .ref r] h1 = some (.inl none, zup h3 h.2.1 (13, [.ref (h.2.1 + 1), .int 0, .int 0, .int 0])) := by
    simp (disch := first | exact znw_u | exact znw_i) only [zc_207, zs_207_0, zs_207_0n, zs_207_1, zs_207_1n, zs_207_2, zs_207_3, zs_207_6, rcs, e208, zbk_v, zts_n, List.cons_append, List.nil_append]
  refine ⟨zup h3 h.2.1 (13, [.ref (h.2.1 + 1), .int 0, .int 0, .int 0]), ?_, zup_at, by rw [zup_ne (by omega), t1], fun q hq => by rw [zup_ne (by omega), t2 q (by omega), hh2, zup_ne (by omega), l1 q hq], t3, by show h3.2.2 = _; rw [t4, z2.2]; omega⟩
  simp (disch := first | exact znw_u | exact znw_i) only [zc_206, zs_206_0, zs_206_3, zs_206_4, zs_206_4n, zs_206_5, zs_206_8, zs_206_8n, ← hh1, rcs, e207, zbk_v, zts_n, List.cons_append, List.nil_append]
/-- a new builder -/
theorem c_sbn (hz : sv 0 = .int (nI 1)) : zcall zP sv (d + 2) 0 [.ref h.2.1] (znew h (2, [.null, .int 0, .int 0, .int 0]) 4) = some (.inl none, zext h [(2, [.ref (h.2.1 + 1), .int 0, .int 0, .int 0]), (24, List.replicate 16 (.int 0))] 20) := by
  rw [zext_of, c_SB (r := h.2.1) zext_0 (by rw [zext_sz]; show h.2.1 < h.2.1 + 1; omega) hz]
  simp only [zup_0, zext_ext, zext_sz, List.length_cons, List.length_nil, Nat.reduceAdd, Nat.zero_add, List.nil_append, List.cons_append]
theorem zBl_n {h1 : zH} (e : h1 = zext h [(2, [.ref (h.2.1 + 1), .int 0, .int 0, .int 0]), (24, List.replicate 16 (.int 0))] 20) : zBl h1 h.2.1 (h.2.1 + 1) (List.replicate 16 0) [] := by
  subst e
  refine ⟨⟨0, by rw [zext_0, List.length_nil, nI_0]⟩, by rw [zext_1 (k := 1) rfl, List.map_replicate], ⟨by rw [zext_sz]; show _ < _ + 2; omega, by rw [zext_sz]; show _ < _ + 2; omega, by omega⟩, Nat.zero_le _, rfl, by rw [List.length_replicate]; decide, fun x hx => by rw [List.eq_of_mem_replicate hx]; decide⟩
end ZST
