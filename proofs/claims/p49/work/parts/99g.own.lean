section ZSK
variable {h : zH}
def yA0 : yA := ([], List.replicate 6 0, nI 2, 0)
def yS0 : yS := ([], List.replicate 6 0, nI 2, 0)
/-- what a new object stands for -/
def yw0 : yW := ([], -1, false, yA0, yA0, [], [])
theorem zRow_f {a n : Nat} (h1 : h.1 a = (4, [.ref (a + 1)])) (h2 : h.1 (a + 1) = (20, List.replicate n (.int 0))) (hn : n < 2 ^ 31) : zRow h a (List.replicate n 0) := ⟨h1, by rw [h2, List.map_replicate], by rw [List.length_replicate]; exact hn⟩
theorem zTre_f {t m : Nat} (c : h.1 t = (6, [.ref (t + 1), .ref (t + 3), .ref (t + 5), .ref (t + 7), .int (nI m), .int 0])) (r1 : zRow h (t + 1) (List.replicate m 0)) (r2 : zRow h (t + 3) (List.replicate m 0)) (r3 : zRow h (t + 5) (List.replicate m 0)) (r4 : zRow h (t + 7) (List.replicate m 0)) : zTre h t m [] :=
  ⟨_, _, _, _, by rw [c, ← nI_0]; rfl, ⟨r1, r2, r3, r4⟩, ⟨List.length_replicate, List.length_replicate, List.length_replicate, List.length_replicate, Nat.zero_le _⟩, rfl, rfl, rfl, rfl⟩
theorem zSta_f {s : Nat} (c : h.1 s = (3, [.ref (s + 1), .int 0, .ref (s + 2), .int (nI 2), .int 0])) (f : h.1 (s + 1) = (25, List.replicate 6 .null)) (r : zRow h (s + 2) (List.replicate 6 0)) : zSta h s yS0 :=
  ⟨by rw [c, ← nI_0]; rfl, ⟨_, f, rfl, fun j hj => by
    rcases (show j = 0 ∨ j = 1 ∨ j = 2 ∨ j = 3 ∨ j = 4 ∨ j = 5 by omega) with rfl | rfl | rfl | rfl | rfl | rfl <;> rfl⟩, r, rfl, Nat.zero_le _⟩
theorem yAok_0 : yAok yA0 := ⟨Nat.zero_le _, fun t ht => absurd ht List.not_mem_nil, rfl⟩
theorem zAS_0 {m : Nat} : zAS h m yS0 yA0 := ⟨rfl, ⟨rfl, fun i a t hi => (by cases hi)⟩, yAok_0⟩
variable {S : Nat}
set_option maxRecDepth 10000 in
theorem zfr_his : zHis (zext h (zC1 h.2.1) S) (h.2.1 + 11) [] := by
  refine ⟨0, by decide, by rw [zr0_11, nI_0]; show _ = ((5, [.ref _, .int 0, .int (nI 0)]) : zC); rw [nI_0], zr0_12, fun k hk => ⟨yS0, ?_⟩, fun j S2 hj => (by cases hj), Nat.zero_le _⟩
  rcases (show k = 0 ∨ k = 1 ∨ k = 2 ∨ k = 3 ∨ k = 4 ∨ k = 5 ∨ k = 6 ∨ k = 7 by omega) with rfl | rfl | rfl | rfl | rfl | rfl | rfl | rfl
  · exact (zSta_f (zr0_13 (h := h) (S := S)) (zr0_14 (h := h) (S := S)) (zRow_f (n := 6) (zr0_15 (h := h) (S := S)) (zr0_16 (h := h) (S := S)) (by decide)))
  · exact (zSta_f (zr0_17 (h := h) (S := S)) (zr0_18 (h := h) (S := S)) (zRow_f (n := 6) (zr0_19 (h := h) (S := S)) (zr0_20 (h := h) (S := S)) (by decide)))
  · exact (zSta_f (zr0_21 (h := h) (S := S)) (zr0_22 (h := h) (S := S)) (zRow_f (n := 6) (zr0_23 (h := h) (S := S)) (zr0_24 (h := h) (S := S)) (by decide)))
  · exact (zSta_f (zr0_25 (h := h) (S := S)) (zr0_26 (h := h) (S := S)) (zRow_f (n := 6) (zr0_27 (h := h) (S := S)) (zr0_28 (h := h) (S := S)) (by decide)))
  · exact (zSta_f (zr0_29 (h := h) (S := S)) (zr0_30 (h := h) (S := S)) (zRow_f (n := 6) (zr0_31 (h := h) (S := S)) (zr0_32 (h := h) (S := S)) (by decide)))
  · exact (zSta_f (zr0_33 (h := h) (S := S)) (zr0_34 (h := h) (S := S)) (zRow_f (n := 6) (zr0_35 (h := h) (S := S)) (zr0_36 (h := h) (S := S)) (by decide)))
  · exact (zSta_f (zr0_37 (h := h) (S := S)) (zr0_38 (h := h) (S := S)) (zRow_f (n := 6) (zr0_39 (h := h) (S := S)) (zr0_40 (h := h) (S := S)) (by decide)))
  · exact (zSta_f (zr0_41 (h := h) (S := S)) (zr0_42 (h := h) (S := S)) (zRow_f (n := 6) (zr0_43 (h := h) (S := S)) (zr0_44 (h := h) (S := S)) (by decide)))
theorem zfr_par : zPar (zext h (zC1 h.2.1) S) (h.2.1 + 63) [] 0 [] := ⟨by rw [zr0_63, nI_0], ⟨by rw [zr0_64]; show _ = ((8, [.ref _, .int (nI 0)]) : zC); rw [nI_0], ⟨List.replicate 60 0, by rw [zr0_65, List.map_replicate], List.length_replicate, rfl⟩, Nat.zero_le _, fun x hx => absurd hx List.not_mem_nil⟩, (zTre_f (m := 60) (zr0_66 (h := h) (S := S)) (zRow_f (n := 60) (zr0_67 (h := h) (S := S)) (zr0_68 (h := h) (S := S)) (by decide)) (zRow_f (n := 60) (zr0_69 (h := h) (S := S)) (zr0_70 (h := h) (S := S)) (by decide)) (zRow_f (n := 60) (zr0_71 (h := h) (S := S)) (zr0_72 (h := h) (S := S)) (by decide)) (zRow_f (n := 60) (zr0_73 (h := h) (S := S)) (zr0_74 (h := h) (S := S)) (by decide)))⟩
set_option maxRecDepth 10000 in
theorem zfr_scr : zScr (zext h (zC1 h.2.1) S) h.2.1 := by
  refine ⟨⟨[], (zTre_f (m := 124) (zr0_45 (h := h) (S := S)) (zRow_f (n := 124) (zr0_46 (h := h) (S := S)) (zr0_47 (h := h) (S := S)) (by decide)) (zRow_f (n := 124) (zr0_48 (h := h) (S := S)) (zr0_49 (h := h) (S := S)) (by decide)) (zRow_f (n := 124) (zr0_50 (h := h) (S := S)) (zr0_51 (h := h) (S := S)) (by decide)) (zRow_f (n := 124) (zr0_52 (h := h) (S := S)) (zr0_53 (h := h) (S := S)) (by decide)))⟩, ⟨[], (zTre_f (m := 124) (zr0_54 (h := h) (S := S)) (zRow_f (n := 124) (zr0_55 (h := h) (S := S)) (zr0_56 (h := h) (S := S)) (by decide)) (zRow_f (n := 124) (zr0_57 (h := h) (S := S)) (zr0_58 (h := h) (S := S)) (by decide)) (zRow_f (n := 124) (zr0_59 (h := h) (S := S)) (zr0_60 (h := h) (S := S)) (by decide)) (zRow_f (n := 124) (zr0_61 (h := h) (S := S)) (zr0_62 (h := h) (S := S)) (by decide)))⟩, ⟨List.replicate 124 0, (zr0_75 (h := h) (S := S)), (zRow_f (n := 124) (zr0_76 (h := h) (S := S)) (zr0_77 (h := h) (S := S)) (by decide)), List.length_replicate⟩, ⟨_, _, _, (zr0_78 (h := h) (S := S)), (zRow_f (n := 124) (zr0_79 (h := h) (S := S)) (zr0_80 (h := h) (S := S)) (by decide)), (zRow_f (n := 124) (zr0_81 (h := h) (S := S)) (zr0_82 (h := h) (S := S)) (by decide)), (zRow_f (n := 124) (zr0_83 (h := h) (S := S)) (zr0_84 (h := h) (S := S)) (by decide)), List.length_replicate, List.length_replicate, List.length_replicate⟩, ⟨(zr0_85 (h := h) (S := S)), ⟨[], (zTre_f (m := 62) (zr0_86 (h := h) (S := S)) (zRow_f (n := 62) (zr0_87 (h := h) (S := S)) (zr0_88 (h := h) (S := S)) (by decide)) (zRow_f (n := 62) (zr0_89 (h := h) (S := S)) (zr0_90 (h := h) (S := S)) (by decide)) (zRow_f (n := 62) (zr0_91 (h := h) (S := S)) (zr0_92 (h := h) (S := S)) (by decide)) (zRow_f (n := 62) (zr0_93 (h := h) (S := S)) (zr0_94 (h := h) (S := S)) (by decide)))⟩, _, (zRow_f (n := 31) (zr0_95 (h := h) (S := S)) (zr0_96 (h := h) (S := S)) (by decide)), List.length_replicate⟩, ⟨_, _, (zr0_97 (h := h) (S := S))⟩, ⟨_, _, _, (zr0_98 (h := h) (S := S)), (zRow_f (n := 124) (zr0_99 (h := h) (S := S)) (zr0_100 (h := h) (S := S)) (by decide)), (zRow_f (n := 124) (zr0_101 (h := h) (S := S)) (zr0_102 (h := h) (S := S)) (by decide)), (zRow_f (n := 124) (zr0_103 (h := h) (S := S)) (zr0_104 (h := h) (S := S)) (by decide)), List.length_replicate, List.length_replicate, List.length_replicate⟩, ⟨_, (zRow_f (n := 62) (zr0_105 (h := h) (S := S)) (zr0_106 (h := h) (S := S)) (by decide)), List.length_replicate⟩, ⟨_, (zRow_f (n := 62) (zr0_107 (h := h) (S := S)) (zr0_108 (h := h) (S := S)) (by decide)), List.length_replicate⟩, ⟨_, (zRow_f (n := 62) (zr0_109 (h := h) (S := S)) (zr0_110 (h := h) (S := S)) (by decide)), List.length_replicate⟩, ⟨_, (zRow_f (n := 62) (zr0_111 (h := h) (S := S)) (zr0_112 (h := h) (S := S)) (by decide)), List.length_replicate⟩, ⟨_, (zRow_f (n := 62) (zr0_113 (h := h) (S := S)) (zr0_114 (h := h) (S := S)) (by decide)), List.length_replicate⟩, ⟨_, (zRow_f (n := 7) (zr0_115 (h := h) (S := S)) (zr0_116 (h := h) (S := S)) (by decide)), List.length_replicate, fun x hx => List.eq_of_mem_replicate hx⟩, _, (zRow_f (n := 11) (zr0_117 (h := h) (S := S)) (zr0_118 (h := h) (S := S)) (by decide)), List.length_replicate⟩
theorem zfr_cls : zCls (zext h (zC1 h.2.1) S) h.2.1 yw0 := by
  refine ⟨Nat.le_of_eq zr0_sz.symm, zr0_0, ⟨yS0, (zSta_f (zr0_3 (h := h) (S := S)) (zr0_4 (h := h) (S := S)) (zRow_f (n := 6) (zr0_5 (h := h) (S := S)) (zr0_6 (h := h) (S := S)) (by decide))), zAS_0⟩, ⟨yS0, (zSta_f (zr0_7 (h := h) (S := S)) (zr0_8 (h := h) (S := S)) (zRow_f (n := 6) (zr0_9 (h := h) (S := S)) (zr0_10 (h := h) (S := S)) (by decide))), zAS_0⟩, ⟨[], zfr_his, rfl, fun j S2 A hj => (by cases hj)⟩, ⟨0, [], zfr_par⟩, zfr_scr, ?_⟩
  refine ⟨h.2.1 + 2, List.replicate 16 0, 0, by rw [zr0_1]; show _ = ((2, [.ref _, .int 0, .int 0, .int (nI 0)]) : zC); rw [nI_0], by rw [zr0_2, List.map_replicate], Or.inl rfl, Nat.zero_le _, rfl, by rw [List.length_replicate]; decide, fun x hx => ?_⟩
  rw [List.eq_of_mem_replicate hx]
  decide +kernel
end ZSK

section ZHL
variable {sv : Nat → Value} {D : Nat} {h : zH} {m N M : Nat} {w w1 : yW}
theorem h_218v {x1 : Int32} {y : Int32} (hc : zCls h m w) (e : zEnd h m (zcall zP sv D 24 [.ref m, .int x1] h) N M (.inl (some (.int y))) w1) : zEnd h m (zcall zP sv (D + 1) 218 [.ref m, .int x1] h) N M (.inl (some (.int y))) w1 := by
  obtain ⟨h1, e, g⟩ := e
  refine ⟨h1, ?_, g⟩
  simp (disch := first | exact znw_u | exact znw_i) only [zc_218, zs_218_0, zs_218_0n, zs_218_1, zs_218_2, zs_218_5, zs_218_7, zs_218_10, zh_218_2_0, zEC1 hc, e, zbk_v, zts_s, zts_n, List.cons_append, List.nil_append]
theorem h_218e0 {x1 : Int32} (hc : zCls h m w) (e : zEnd h m (zcall zP sv D 24 [.ref m, .int x1] h) N M (.inr 0) w1) : zEnd h m (zcall zP sv (D + 1) 218 [.ref m, .int x1] h) N M (.inl (some (.int (-1001)))) w1 := by
  obtain ⟨h1, e, g⟩ := e
  refine ⟨h1, ?_, g⟩
  simp (disch := first | exact znw_u | exact znw_i) only [zc_218, zs_218_0, zs_218_0n, zs_218_1, zs_218_2, zs_218_5, zs_218_7, zs_218_10, zh_218_2_0, zEC1 hc, e, zbk_x, zh_218_2_0, zts_s, zts_n, List.cons_append, List.nil_append]
theorem h_219v  {y : Int32} (hc : zCls h m w) (e : zEnd h m (zcall zP sv D 26 [.ref m] h) N M (.inl (some (.int y))) w1) : zEnd h m (zcall zP sv (D + 1) 219 [.ref m] h) N M (.inl (some (.int y))) w1 := by
  obtain ⟨h1, e, g⟩ := e
  refine ⟨h1, ?_, g⟩
  simp (disch := first | exact znw_u | exact znw_i) only [zc_219, zs_219_0, zs_219_0n, zs_219_1, zs_219_4, zs_219_6, zs_219_9, zs_219_11, zs_219_14, zs_219_16, zs_219_19, zh_219_1_1, zh_219_1_0, zh_219_1_3, zEC1 hc, e, zbk_v, zts_s, zts_n, List.cons_append, List.nil_append]
theorem h_219e1  (hc : zCls h m w) (e : zEnd h m (zcall zP sv D 26 [.ref m] h) N M (.inr 1) w1) : zEnd h m (zcall zP sv (D + 1) 219 [.ref m] h) N M (.inl (some (.int (-1001)))) w1 := by
  obtain ⟨h1, e, g⟩ := e
  refine ⟨h1, ?_, g⟩
  simp (disch := first | exact znw_u | exact znw_i) only [zc_219, zs_219_0, zs_219_0n, zs_219_1, zs_219_4, zs_219_6, zs_219_9, zs_219_11, zs_219_14, zs_219_16, zs_219_19, zh_219_1_1, zh_219_1_0, zh_219_1_3, zEC1 hc, e, zbk_x, zh_219_1_1, zts_s, zts_n, List.cons_append, List.nil_append]
theorem h_219e0  (hc : zCls h m w) (e : zEnd h m (zcall zP sv D 26 [.ref m] h) N M (.inr 0) w1) : zEnd h m (zcall zP sv (D + 1) 219 [.ref m] h) N M (.inl (some (.int (-1002)))) w1 := by
  obtain ⟨h1, e, g⟩ := e
  refine ⟨h1, ?_, g⟩
  simp (disch := first | exact znw_u | exact znw_i) only [zc_219, zs_219_0, zs_219_0n, zs_219_1, zs_219_4, zs_219_6, zs_219_9, zs_219_11, zs_219_14, zs_219_16, zs_219_19, zh_219_1_1, zh_219_1_0, zh_219_1_3, zEC1 hc, e, zbk_x, zh_219_1_0, zts_s, zts_n, List.cons_append, List.nil_append]
theorem h_219e3  (hc : zCls h m w) (e : zEnd h m (zcall zP sv D 26 [.ref m] h) N M (.inr 3) w1) : zEnd h m (zcall zP sv (D + 1) 219 [.ref m] h) N M (.inl (some (.int (-1003)))) w1 := by
  obtain ⟨h1, e, g⟩ := e
  refine ⟨h1, ?_, g⟩
  simp (disch := first | exact znw_u | exact znw_i) only [zc_219, zs_219_0, zs_219_0n, zs_219_1, zs_219_4, zs_219_6, zs_219_9, zs_219_11, zs_219_14, zs_219_16, zs_219_19, zh_219_1_1, zh_219_1_0, zh_219_1_3, zEC1 hc, e, zbk_x, zh_219_1_3, zts_s, zts_n, List.cons_append, List.nil_append]
theorem h_220v {x1 : Int32} {y : Int32} (hc : zCls h m w) (e : zEnd h m (zcall zP sv D 27 [.ref m, .int x1] h) N M (.inl (some (.int y))) w1) : zEnd h m (zcall zP sv (D + 1) 220 [.ref m, .int x1] h) N M (.inl (some (.int y))) w1 := by
  obtain ⟨h1, e, g⟩ := e
  refine ⟨h1, ?_, g⟩
  simp (disch := first | exact znw_u | exact znw_i) only [zc_220, zs_220_0, zs_220_0n, zs_220_1, zs_220_2, zs_220_5, zs_220_7, zs_220_10, zh_220_2_2, zEC1 hc, e, zbk_v, zts_s, zts_n, List.cons_append, List.nil_append]
theorem h_220e2 {x1 : Int32} (hc : zCls h m w) (e : zEnd h m (zcall zP sv D 27 [.ref m, .int x1] h) N M (.inr 2) w1) : zEnd h m (zcall zP sv (D + 1) 220 [.ref m, .int x1] h) N M (.inl (some (.int (-1001)))) w1 := by
  obtain ⟨h1, e, g⟩ := e
  refine ⟨h1, ?_, g⟩
  simp (disch := first | exact znw_u | exact znw_i) only [zc_220, zs_220_0, zs_220_0n, zs_220_1, zs_220_2, zs_220_5, zs_220_7, zs_220_10, zh_220_2_2, zEC1 hc, e, zbk_x, zh_220_2_2, zts_s, zts_n, List.cons_append, List.nil_append]
theorem h_221v {x1 : Int32} {y : Int32} (hc : zCls h m w) (e : zEnd h m (zcall zP sv D 28 [.ref m, .int x1] h) N M (.inl (some (.int y))) w1) : zEnd h m (zcall zP sv (D + 1) 221 [.ref m, .int x1] h) N M (.inl (some (.int y))) w1 := by
  obtain ⟨h1, e, g⟩ := e
  refine ⟨h1, ?_, g⟩
  simp (disch := first | exact znw_u | exact znw_i) only [zc_221, zs_221_0, zs_221_0n, zs_221_1, zs_221_2, zs_221_5, zs_221_7, zs_221_10, zh_221_2_2, zEC1 hc, e, zbk_v, zts_s, zts_n, List.cons_append, List.nil_append]
theorem h_221e2 {x1 : Int32} (hc : zCls h m w) (e : zEnd h m (zcall zP sv D 28 [.ref m, .int x1] h) N M (.inr 2) w1) : zEnd h m (zcall zP sv (D + 1) 221 [.ref m, .int x1] h) N M (.inl (some (.int (-1001)))) w1 := by
  obtain ⟨h1, e, g⟩ := e
  refine ⟨h1, ?_, g⟩
  simp (disch := first | exact znw_u | exact znw_i) only [zc_221, zs_221_0, zs_221_0n, zs_221_1, zs_221_2, zs_221_5, zs_221_7, zs_221_10, zh_221_2_2, zEC1 hc, e, zbk_x, zh_221_2_2, zts_s, zts_n, List.cons_append, List.nil_append]
theorem h_222v {x1 : Int32} {x2 : Int32} {y : Int32} (hc : zCls h m w) (e : zEnd h m (zcall zP sv D 29 [.ref m, .int x1, .int x2] h) N M (.inl (some (.int y))) w1) : zEnd h m (zcall zP sv (D + 1) 222 [.ref m, .int x1, .int x2] h) N M (.inl (some (.int y))) w1 := by
  obtain ⟨h1, e, g⟩ := e
  refine ⟨h1, ?_, g⟩
  simp (disch := first | exact znw_u | exact znw_i) only [zc_222, zs_222_0, zs_222_0n, zs_222_1, zs_222_2, zs_222_3, zs_222_6, zs_222_8, zs_222_11, zs_222_13, zs_222_16, zs_222_18, zs_222_21, zs_222_23, zs_222_26, zh_222_3_2, zh_222_3_1, zh_222_3_0, zh_222_3_3, zEC1 hc, e, zbk_v, zts_s, zts_n, List.cons_append, List.nil_append]
theorem h_222e2 {x1 : Int32} {x2 : Int32} (hc : zCls h m w) (e : zEnd h m (zcall zP sv D 29 [.ref m, .int x1, .int x2] h) N M (.inr 2) w1) : zEnd h m (zcall zP sv (D + 1) 222 [.ref m, .int x1, .int x2] h) N M (.inl (some (.int (-1001)))) w1 := by
  obtain ⟨h1, e, g⟩ := e
  refine ⟨h1, ?_, g⟩
  simp (disch := first | exact znw_u | exact znw_i) only [zc_222, zs_222_0, zs_222_0n, zs_222_1, zs_222_2, zs_222_3, zs_222_6, zs_222_8, zs_222_11, zs_222_13, zs_222_16, zs_222_18, zs_222_21, zs_222_23, zs_222_26, zh_222_3_2, zh_222_3_1, zh_222_3_0, zh_222_3_3, zEC1 hc, e, zbk_x, zh_222_3_2, zts_s, zts_n, List.cons_append, List.nil_append]
theorem h_222e1 {x1 : Int32} {x2 : Int32} (hc : zCls h m w) (e : zEnd h m (zcall zP sv D 29 [.ref m, .int x1, .int x2] h) N M (.inr 1) w1) : zEnd h m (zcall zP sv (D + 1) 222 [.ref m, .int x1, .int x2] h) N M (.inl (some (.int (-1002)))) w1 := by
  obtain ⟨h1, e, g⟩ := e
  refine ⟨h1, ?_, g⟩
  simp (disch := first | exact znw_u | exact znw_i) only [zc_222, zs_222_0, zs_222_0n, zs_222_1, zs_222_2, zs_222_3, zs_222_6, zs_222_8, zs_222_11, zs_222_13, zs_222_16, zs_222_18, zs_222_21, zs_222_23, zs_222_26, zh_222_3_2, zh_222_3_1, zh_222_3_0, zh_222_3_3, zEC1 hc, e, zbk_x, zh_222_3_1, zts_s, zts_n, List.cons_append, List.nil_append]
theorem h_222e0 {x1 : Int32} {x2 : Int32} (hc : zCls h m w) (e : zEnd h m (zcall zP sv D 29 [.ref m, .int x1, .int x2] h) N M (.inr 0) w1) : zEnd h m (zcall zP sv (D + 1) 222 [.ref m, .int x1, .int x2] h) N M (.inl (some (.int (-1003)))) w1 := by
  obtain ⟨h1, e, g⟩ := e
  refine ⟨h1, ?_, g⟩
  simp (disch := first | exact znw_u | exact znw_i) only [zc_222, zs_222_0, zs_222_0n, zs_222_1, zs_222_2, zs_222_3, zs_222_6, zs_222_8, zs_222_11, zs_222_13, zs_222_16, zs_222_18, zs_222_21, zs_222_23, zs_222_26, zh_222_3_2, zh_222_3_1, zh_222_3_0, zh_222_3_3, zEC1 hc, e, zbk_x, zh_222_3_0, zts_s, zts_n, List.cons_append, List.nil_append]
theorem h_222e3 {x1 : Int32} {x2 : Int32} (hc : zCls h m w) (e : zEnd h m (zcall zP sv D 29 [.ref m, .int x1, .int x2] h) N M (.inr 3) w1) : zEnd h m (zcall zP sv (D + 1) 222 [.ref m, .int x1, .int x2] h) N M (.inl (some (.int (-1004)))) w1 := by
  obtain ⟨h1, e, g⟩ := e
  refine ⟨h1, ?_, g⟩
  simp (disch := first | exact znw_u | exact znw_i) only [zc_222, zs_222_0, zs_222_0n, zs_222_1, zs_222_2, zs_222_3, zs_222_6, zs_222_8, zs_222_11, zs_222_13, zs_222_16, zs_222_18, zs_222_21, zs_222_23, zs_222_26, zh_222_3_2, zh_222_3_1, zh_222_3_0, zh_222_3_3, zEC1 hc, e, zbk_x, zh_222_3_3, zts_s, zts_n, List.cons_append, List.nil_append]
theorem h_223v {x1 : Int32} {x2 : Int32} {x3 : Int32} {y : Int32} (hc : zCls h m w) (e : zEnd h m (zcall zP sv D 30 [.ref m, .int x1, .int x2, .int x3] h) N M (.inl (some (.int y))) w1) : zEnd h m (zcall zP sv (D + 1) 223 [.ref m, .int x1, .int x2, .int x3] h) N M (.inl (some (.int y))) w1 := by
  obtain ⟨h1, e, g⟩ := e
  refine ⟨h1, ?_, g⟩
  simp (disch := first | exact znw_u | exact znw_i) only [zc_223, zs_223_0, zs_223_0n, zs_223_1, zs_223_2, zs_223_3, zs_223_4, zs_223_7, zs_223_10, zs_223_13, zs_223_16, zs_223_19, zs_223_22, zs_223_25, zh_223_4_2, zh_223_4_1, zh_223_4_3, zEC1 hc, e, zbk_v, zts_s, zts_n, List.cons_append, List.nil_append]
theorem h_223e2 {x1 : Int32} {x2 : Int32} {x3 : Int32} (hc : zCls h m w) (e : zEnd h m (zcall zP sv D 30 [.ref m, .int x1, .int x2, .int x3] h) N M (.inr 2) w1) : zEnd h m (zcall zP sv (D + 1) 223 [.ref m, .int x1, .int x2, .int x3] h) N M (.inl (some (.int (-1001)))) w1 := by
  obtain ⟨h1, e, g⟩ := e
  refine ⟨h1, ?_, g⟩
  simp (disch := first | exact znw_u | exact znw_i) only [zc_223, zs_223_0, zs_223_0n, zs_223_1, zs_223_2, zs_223_3, zs_223_4, zs_223_7, zs_223_10, zs_223_13, zs_223_16, zs_223_19, zs_223_22, zs_223_25, zh_223_4_2, zh_223_4_1, zh_223_4_3, zEC1 hc, e, zbk_x, zh_223_4_2, zts_s, zts_n, List.cons_append, List.nil_append]
theorem h_223e1 {x1 : Int32} {x2 : Int32} {x3 : Int32} (hc : zCls h m w) (e : zEnd h m (zcall zP sv D 30 [.ref m, .int x1, .int x2, .int x3] h) N M (.inr 1) w1) : zEnd h m (zcall zP sv (D + 1) 223 [.ref m, .int x1, .int x2, .int x3] h) N M (.inl (some (.int (-1002)))) w1 := by
  obtain ⟨h1, e, g⟩ := e
  refine ⟨h1, ?_, g⟩
  simp (disch := first | exact znw_u | exact znw_i) only [zc_223, zs_223_0, zs_223_0n, zs_223_1, zs_223_2, zs_223_3, zs_223_4, zs_223_7, zs_223_10, zs_223_13, zs_223_16, zs_223_19, zs_223_22, zs_223_25, zh_223_4_2, zh_223_4_1, zh_223_4_3, zEC1 hc, e, zbk_x, zh_223_4_1, zts_s, zts_n, List.cons_append, List.nil_append]
theorem h_223e3 {x1 : Int32} {x2 : Int32} {x3 : Int32} (hc : zCls h m w) (e : zEnd h m (zcall zP sv D 30 [.ref m, .int x1, .int x2, .int x3] h) N M (.inr 3) w1) : zEnd h m (zcall zP sv (D + 1) 223 [.ref m, .int x1, .int x2, .int x3] h) N M (.inl (some (.int (-1003)))) w1 := by
  obtain ⟨h1, e, g⟩ := e
  refine ⟨h1, ?_, g⟩
  simp (disch := first | exact znw_u | exact znw_i) only [zc_223, zs_223_0, zs_223_0n, zs_223_1, zs_223_2, zs_223_3, zs_223_4, zs_223_7, zs_223_10, zs_223_13, zs_223_16, zs_223_19, zs_223_22, zs_223_25, zh_223_4_2, zh_223_4_1, zh_223_4_3, zEC1 hc, e, zbk_x, zh_223_4_3, zts_s, zts_n, List.cons_append, List.nil_append]
theorem h_224v {x1 : Int32} {y : Int32} (hc : zCls h m w) (e : zEnd h m (zcall zP sv D 34 [.ref m, .int x1] h) N M (.inl (some (.int y))) w1) : zEnd h m (zcall zP sv (D + 1) 224 [.ref m, .int x1] h) N M (.inl (some (.int y))) w1 := by
  obtain ⟨h1, e, g⟩ := e
  refine ⟨h1, ?_, g⟩
  simp (disch := first | exact znw_u | exact znw_i) only [zc_224, zs_224_0, zs_224_0n, zs_224_1, zs_224_2, zs_224_5, zs_224_7, zs_224_10, zh_224_2_1, zEC1 hc, e, zbk_v, zts_s, zts_n, List.cons_append, List.nil_append]
theorem h_224e1 {x1 : Int32} (hc : zCls h m w) (e : zEnd h m (zcall zP sv D 34 [.ref m, .int x1] h) N M (.inr 1) w1) : zEnd h m (zcall zP sv (D + 1) 224 [.ref m, .int x1] h) N M (.inl (some (.int (-1001)))) w1 := by
  obtain ⟨h1, e, g⟩ := e
  refine ⟨h1, ?_, g⟩
  simp (disch := first | exact znw_u | exact znw_i) only [zc_224, zs_224_0, zs_224_0n, zs_224_1, zs_224_2, zs_224_5, zs_224_7, zs_224_10, zh_224_2_1, zEC1 hc, e, zbk_x, zh_224_2_1, zts_s, zts_n, List.cons_append, List.nil_append]
theorem h_225v {x1 : Int32} {y : Int32} (hc : zCls h m w) (e : zEnd h m (zcall zP sv D 32 [.ref m, .int x1] h) N M (.inl (some (.int y))) w1) : zEnd h m (zcall zP sv (D + 1) 225 [.ref m, .int x1] h) N M (.inl (some (.int y))) w1 := by
  obtain ⟨h1, e, g⟩ := e
  refine ⟨h1, ?_, g⟩
  simp (disch := first | exact znw_u | exact znw_i) only [zc_225, zs_225_0, zs_225_0n, zs_225_1, zs_225_2, zs_225_5, zs_225_7, zs_225_10, zh_225_2_1, zEC1 hc, e, zbk_v, zts_s, zts_n, List.cons_append, List.nil_append]
theorem h_225e1 {x1 : Int32} (hc : zCls h m w) (e : zEnd h m (zcall zP sv D 32 [.ref m, .int x1] h) N M (.inr 1) w1) : zEnd h m (zcall zP sv (D + 1) 225 [.ref m, .int x1] h) N M (.inl (some (.int (-1001)))) w1 := by
  obtain ⟨h1, e, g⟩ := e
  refine ⟨h1, ?_, g⟩
  simp (disch := first | exact znw_u | exact znw_i) only [zc_225, zs_225_0, zs_225_0n, zs_225_1, zs_225_2, zs_225_5, zs_225_7, zs_225_10, zh_225_2_1, zEC1 hc, e, zbk_x, zh_225_2_1, zts_s, zts_n, List.cons_append, List.nil_append]
theorem h_226v {x1 : Int32} {y : Int32} (hc : zCls h m w) (e : zEnd h m (zcall zP sv D 36 [.ref m, .int x1] h) N M (.inl (some (.int y))) w1) : zEnd h m (zcall zP sv (D + 1) 226 [.ref m, .int x1] h) N M (.inl (some (.int y))) w1 := by
  obtain ⟨h1, e, g⟩ := e
  refine ⟨h1, ?_, g⟩
  simp (disch := first | exact znw_u | exact znw_i) only [zc_226, zs_226_0, zs_226_0n, zs_226_1, zs_226_2, zs_226_5, zs_226_7, zs_226_10, zh_226_2_2, zEC1 hc, e, zbk_v, zts_s, zts_n, List.cons_append, List.nil_append]
theorem h_226e2 {x1 : Int32} (hc : zCls h m w) (e : zEnd h m (zcall zP sv D 36 [.ref m, .int x1] h) N M (.inr 2) w1) : zEnd h m (zcall zP sv (D + 1) 226 [.ref m, .int x1] h) N M (.inl (some (.int (-1001)))) w1 := by
  obtain ⟨h1, e, g⟩ := e
  refine ⟨h1, ?_, g⟩
  simp (disch := first | exact znw_u | exact znw_i) only [zc_226, zs_226_0, zs_226_0n, zs_226_1, zs_226_2, zs_226_5, zs_226_7, zs_226_10, zh_226_2_2, zEC1 hc, e, zbk_x, zh_226_2_2, zts_s, zts_n, List.cons_append, List.nil_append]
theorem h_227v {x1 : Int32} {y : Int32} (hc : zCls h m w) (e : zEnd h m (zcall zP sv D 37 [.ref m, .int x1] h) N M (.inl (some (.int y))) w1) : zEnd h m (zcall zP sv (D + 1) 227 [.ref m, .int x1] h) N M (.inl (some (.int y))) w1 := by
  obtain ⟨h1, e, g⟩ := e
  refine ⟨h1, ?_, g⟩
  simp (disch := first | exact znw_u | exact znw_i) only [zc_227, zs_227_0, zs_227_0n, zs_227_1, zs_227_2, zs_227_5, zs_227_7, zs_227_10, zh_227_2_2, zEC1 hc, e, zbk_v, zts_s, zts_n, List.cons_append, List.nil_append]
theorem h_227e2 {x1 : Int32} (hc : zCls h m w) (e : zEnd h m (zcall zP sv D 37 [.ref m, .int x1] h) N M (.inr 2) w1) : zEnd h m (zcall zP sv (D + 1) 227 [.ref m, .int x1] h) N M (.inl (some (.int (-1001)))) w1 := by
  obtain ⟨h1, e, g⟩ := e
  refine ⟨h1, ?_, g⟩
  simp (disch := first | exact znw_u | exact znw_i) only [zc_227, zs_227_0, zs_227_0n, zs_227_1, zs_227_2, zs_227_5, zs_227_7, zs_227_10, zh_227_2_2, zEC1 hc, e, zbk_x, zh_227_2_2, zts_s, zts_n, List.cons_append, List.nil_append]
theorem h_228v {x1 : Int32} {x2 : Int32} {y : Int32} (hc : zCls h m w) (e : zEnd h m (zcall zP sv D 38 [.ref m, .int x1, .int x2] h) N M (.inl (some (.int y))) w1) : zEnd h m (zcall zP sv (D + 1) 228 [.ref m, .int x1, .int x2] h) N M (.inl (some (.int y))) w1 := by
  obtain ⟨h1, e, g⟩ := e
  refine ⟨h1, ?_, g⟩
  simp (disch := first | exact znw_u | exact znw_i) only [zc_228, zs_228_0, zs_228_0n, zs_228_1, zs_228_2, zs_228_3, zs_228_6, zs_228_8, zs_228_11, zs_228_13, zs_228_16, zh_228_3_2, zh_228_3_1, zEC1 hc, e, zbk_v, zts_s, zts_n, List.cons_append, List.nil_append]
theorem h_228e2 {x1 : Int32} {x2 : Int32} (hc : zCls h m w) (e : zEnd h m (zcall zP sv D 38 [.ref m, .int x1, .int x2] h) N M (.inr 2) w1) : zEnd h m (zcall zP sv (D + 1) 228 [.ref m, .int x1, .int x2] h) N M (.inl (some (.int (-1001)))) w1 := by
  obtain ⟨h1, e, g⟩ := e
  refine ⟨h1, ?_, g⟩
  simp (disch := first | exact znw_u | exact znw_i) only [zc_228, zs_228_0, zs_228_0n, zs_228_1, zs_228_2, zs_228_3, zs_228_6, zs_228_8, zs_228_11, zs_228_13, zs_228_16, zh_228_3_2, zh_228_3_1, zEC1 hc, e, zbk_x, zh_228_3_2, zts_s, zts_n, List.cons_append, List.nil_append]
theorem h_228e1 {x1 : Int32} {x2 : Int32} (hc : zCls h m w) (e : zEnd h m (zcall zP sv D 38 [.ref m, .int x1, .int x2] h) N M (.inr 1) w1) : zEnd h m (zcall zP sv (D + 1) 228 [.ref m, .int x1, .int x2] h) N M (.inl (some (.int (-1002)))) w1 := by
  obtain ⟨h1, e, g⟩ := e
  refine ⟨h1, ?_, g⟩
  simp (disch := first | exact znw_u | exact znw_i) only [zc_228, zs_228_0, zs_228_0n, zs_228_1, zs_228_2, zs_228_3, zs_228_6, zs_228_8, zs_228_11, zs_228_13, zs_228_16, zh_228_3_2, zh_228_3_1, zEC1 hc, e, zbk_x, zh_228_3_1, zts_s, zts_n, List.cons_append, List.nil_append]
theorem h_229v {x1 : Int32} {y : Int32} (hc : zCls h m w) (e : zEnd h m (zcall zP sv D 39 [.ref m, .int x1] h) N M (.inl (some (.int y))) w1) : zEnd h m (zcall zP sv (D + 1) 229 [.ref m, .int x1] h) N M (.inl (some (.int y))) w1 := by
  obtain ⟨h1, e, g⟩ := e
  refine ⟨h1, ?_, g⟩
  simp (disch := first | exact znw_u | exact znw_i) only [zc_229, zs_229_0, zs_229_0n, zs_229_1, zs_229_2, zs_229_5, zs_229_7, zs_229_10, zh_229_2_2, zEC1 hc, e, zbk_v, zts_s, zts_n, List.cons_append, List.nil_append]
theorem h_229e2 {x1 : Int32} (hc : zCls h m w) (e : zEnd h m (zcall zP sv D 39 [.ref m, .int x1] h) N M (.inr 2) w1) : zEnd h m (zcall zP sv (D + 1) 229 [.ref m, .int x1] h) N M (.inl (some (.int (-1001)))) w1 := by
  obtain ⟨h1, e, g⟩ := e
  refine ⟨h1, ?_, g⟩
  simp (disch := first | exact znw_u | exact znw_i) only [zc_229, zs_229_0, zs_229_0n, zs_229_1, zs_229_2, zs_229_5, zs_229_7, zs_229_10, zh_229_2_2, zEC1 hc, e, zbk_x, zh_229_2_2, zts_s, zts_n, List.cons_append, List.nil_append]
theorem h_230e2 {x1 : Int32} (hc : zCls h m w) (e : zEnd h m (zcall zP sv D 40 [.ref m, .int x1] h) N M (.inr 2) w1) : zEnd h m (zcall zP sv (D + 1) 230 [.ref m, .int x1] h) N M (.inl (some (.int (-1001)))) w1 := by
  obtain ⟨h1, e, g⟩ := e
  refine ⟨h1, ?_, g⟩
  simp (disch := first | exact znw_u | exact znw_i) only [zc_230, zs_230_0, zs_230_0n, zs_230_1, zs_230_2, zs_230_5, zs_230_8, zs_230_9, zs_230_12, zs_230_13, zs_230_15, zs_230_18, zh_230_2_2, zEC1 hc, e, zbk_x, zh_230_2_2, zts_s, zts_n, List.cons_append, List.nil_append]
theorem h_231e2 {x1 : Int32} {x2 : Int32} (hc : zCls h m w) (e : zEnd h m (zcall zP sv D 41 [.ref m, .int x1, .int x2] h) N M (.inr 2) w1) : zEnd h m (zcall zP sv (D + 1) 231 [.ref m, .int x1, .int x2] h) N M (.inl (some (.int (-1001)))) w1 := by
  obtain ⟨h1, e, g⟩ := e
  refine ⟨h1, ?_, g⟩
  simp (disch := first | exact znw_u | exact znw_i) only [zc_231, zs_231_0, zs_231_0n, zs_231_1, zs_231_2, zs_231_3, zs_231_6, zs_231_9, zs_231_10, zs_231_13, zs_231_14, zs_231_16, zs_231_19, zh_231_3_2, zEC1 hc, e, zbk_x, zh_231_3_2, zts_s, zts_n, List.cons_append, List.nil_append]
theorem h_232v {x1 : Int32} {y : Int32} (hc : zCls h m w) (e : zEnd h m (zcall zP sv D 42 [.ref m, .int x1] h) N M (.inl (some (.int y))) w1) : zEnd h m (zcall zP sv (D + 1) 232 [.ref m, .int x1] h) N M (.inl (some (.int y))) w1 := by
  obtain ⟨h1, e, g⟩ := e
  refine ⟨h1, ?_, g⟩
  simp (disch := first | exact znw_u | exact znw_i) only [zc_232, zs_232_0, zs_232_0n, zs_232_1, zs_232_2, zs_232_5, zs_232_7, zs_232_10, zh_232_2_2, zEC1 hc, e, zbk_v, zts_s, zts_n, List.cons_append, List.nil_append]
theorem h_232e2 {x1 : Int32} (hc : zCls h m w) (e : zEnd h m (zcall zP sv D 42 [.ref m, .int x1] h) N M (.inr 2) w1) : zEnd h m (zcall zP sv (D + 1) 232 [.ref m, .int x1] h) N M (.inl (some (.int (-1001)))) w1 := by
  obtain ⟨h1, e, g⟩ := e
  refine ⟨h1, ?_, g⟩
  simp (disch := first | exact znw_u | exact znw_i) only [zc_232, zs_232_0, zs_232_0n, zs_232_1, zs_232_2, zs_232_5, zs_232_7, zs_232_10, zh_232_2_2, zEC1 hc, e, zbk_x, zh_232_2_2, zts_s, zts_n, List.cons_append, List.nil_append]
theorem h_233v {x1 : Int32} {y : Int32} (hc : zCls h m w) (e : zEnd h m (zcall zP sv D 43 [.ref m, .int x1] h) N M (.inl (some (.int y))) w1) : zEnd h m (zcall zP sv (D + 1) 233 [.ref m, .int x1] h) N M (.inl (some (.int y))) w1 := by
  obtain ⟨h1, e, g⟩ := e
  refine ⟨h1, ?_, g⟩
  simp (disch := first | exact znw_u | exact znw_i) only [zc_233, zs_233_0, zs_233_0n, zs_233_1, zs_233_2, zs_233_5, zs_233_7, zs_233_10, zh_233_2_2, zEC1 hc, e, zbk_v, zts_s, zts_n, List.cons_append, List.nil_append]
theorem h_233e2 {x1 : Int32} (hc : zCls h m w) (e : zEnd h m (zcall zP sv D 43 [.ref m, .int x1] h) N M (.inr 2) w1) : zEnd h m (zcall zP sv (D + 1) 233 [.ref m, .int x1] h) N M (.inl (some (.int (-1001)))) w1 := by
  obtain ⟨h1, e, g⟩ := e
  refine ⟨h1, ?_, g⟩
  simp (disch := first | exact znw_u | exact znw_i) only [zc_233, zs_233_0, zs_233_0n, zs_233_1, zs_233_2, zs_233_5, zs_233_7, zs_233_10, zh_233_2_2, zEC1 hc, e, zbk_x, zh_233_2_2, zts_s, zts_n, List.cons_append, List.nil_append]
theorem h_234v {x1 : Int32} {x2 : Int32} {y : Int32} (hc : zCls h m w) (e : zEnd h m (zcall zP sv D 44 [.ref m, .int x1, .int x2] h) N M (.inl (some (.int y))) w1) : zEnd h m (zcall zP sv (D + 1) 234 [.ref m, .int x1, .int x2] h) N M (.inl (some (.int y))) w1 := by
  obtain ⟨h1, e, g⟩ := e
  refine ⟨h1, ?_, g⟩
  simp (disch := first | exact znw_u | exact znw_i) only [zc_234, zs_234_0, zs_234_0n, zs_234_1, zs_234_2, zs_234_3, zs_234_6, zs_234_8, zs_234_11, zh_234_3_2, zEC1 hc, e, zbk_v, zts_s, zts_n, List.cons_append, List.nil_append]
theorem h_234e2 {x1 : Int32} {x2 : Int32} (hc : zCls h m w) (e : zEnd h m (zcall zP sv D 44 [.ref m, .int x1, .int x2] h) N M (.inr 2) w1) : zEnd h m (zcall zP sv (D + 1) 234 [.ref m, .int x1, .int x2] h) N M (.inl (some (.int (-1001)))) w1 := by
  obtain ⟨h1, e, g⟩ := e
  refine ⟨h1, ?_, g⟩
  simp (disch := first | exact znw_u | exact znw_i) only [zc_234, zs_234_0, zs_234_0n, zs_234_1, zs_234_2, zs_234_3, zs_234_6, zs_234_8, zs_234_11, zh_234_3_2, zEC1 hc, e, zbk_x, zh_234_3_2, zts_s, zts_n, List.cons_append, List.nil_append]
theorem h_235v {x1 : Int32} {y : Int32} (hc : zCls h m w) (e : zEnd h m (zcall zP sv D 49 [.ref m, .int x1] h) N M (.inl (some (.int y))) w1) : zEnd h m (zcall zP sv (D + 1) 235 [.ref m, .int x1] h) N M (.inl (some (.int y))) w1 := by
  obtain ⟨h1, e, g⟩ := e
  refine ⟨h1, ?_, g⟩
  simp (disch := first | exact znw_u | exact znw_i) only [zc_235, zs_235_0, zs_235_0n, zs_235_1, zs_235_2, zs_235_5, zs_235_7, zs_235_10, zh_235_2_2, zEC1 hc, e, zbk_v, zts_s, zts_n, List.cons_append, List.nil_append]
theorem h_235e2 {x1 : Int32} (hc : zCls h m w) (e : zEnd h m (zcall zP sv D 49 [.ref m, .int x1] h) N M (.inr 2) w1) : zEnd h m (zcall zP sv (D + 1) 235 [.ref m, .int x1] h) N M (.inl (some (.int (-1001)))) w1 := by
  obtain ⟨h1, e, g⟩ := e
  refine ⟨h1, ?_, g⟩
  simp (disch := first | exact znw_u | exact znw_i) only [zc_235, zs_235_0, zs_235_0n, zs_235_1, zs_235_2, zs_235_5, zs_235_7, zs_235_10, zh_235_2_2, zEC1 hc, e, zbk_x, zh_235_2_2, zts_s, zts_n, List.cons_append, List.nil_append]
theorem h_236v {x1 : Int32} {y : Int32} (hc : zCls h m w) (e : zEnd h m (zcall zP sv D 50 [.ref m, .int x1] h) N M (.inl (some (.int y))) w1) : zEnd h m (zcall zP sv (D + 1) 236 [.ref m, .int x1] h) N M (.inl (some (.int y))) w1 := by
  obtain ⟨h1, e, g⟩ := e
  refine ⟨h1, ?_, g⟩
  simp (disch := first | exact znw_u | exact znw_i) only [zc_236, zs_236_0, zs_236_0n, zs_236_1, zs_236_2, zs_236_5, zs_236_7, zs_236_10, zh_236_2_2, zEC1 hc, e, zbk_v, zts_s, zts_n, List.cons_append, List.nil_append]
theorem h_236e2 {x1 : Int32} (hc : zCls h m w) (e : zEnd h m (zcall zP sv D 50 [.ref m, .int x1] h) N M (.inr 2) w1) : zEnd h m (zcall zP sv (D + 1) 236 [.ref m, .int x1] h) N M (.inl (some (.int (-1001)))) w1 := by
  obtain ⟨h1, e, g⟩ := e
  refine ⟨h1, ?_, g⟩
  simp (disch := first | exact znw_u | exact znw_i) only [zc_236, zs_236_0, zs_236_0n, zs_236_1, zs_236_2, zs_236_5, zs_236_7, zs_236_10, zh_236_2_2, zEC1 hc, e, zbk_x, zh_236_2_2, zts_s, zts_n, List.cons_append, List.nil_append]
theorem h_237v {x1 : Int32} {y : Int32} (hc : zCls h m w) (e : zEnd h m (zcall zP sv D 51 [.ref m, .int x1] h) N M (.inl (some (.int y))) w1) : zEnd h m (zcall zP sv (D + 1) 237 [.ref m, .int x1] h) N M (.inl (some (.int y))) w1 := by
  obtain ⟨h1, e, g⟩ := e
  refine ⟨h1, ?_, g⟩
  simp (disch := first | exact znw_u | exact znw_i) only [zc_237, zs_237_0, zs_237_0n, zs_237_1, zs_237_2, zs_237_5, zs_237_7, zs_237_10, zh_237_2_2, zEC1 hc, e, zbk_v, zts_s, zts_n, List.cons_append, List.nil_append]
theorem h_237e2 {x1 : Int32} (hc : zCls h m w) (e : zEnd h m (zcall zP sv D 51 [.ref m, .int x1] h) N M (.inr 2) w1) : zEnd h m (zcall zP sv (D + 1) 237 [.ref m, .int x1] h) N M (.inl (some (.int (-1001)))) w1 := by
  obtain ⟨h1, e, g⟩ := e
  refine ⟨h1, ?_, g⟩
  simp (disch := first | exact znw_u | exact znw_i) only [zc_237, zs_237_0, zs_237_0n, zs_237_1, zs_237_2, zs_237_5, zs_237_7, zs_237_10, zh_237_2_2, zEC1 hc, e, zbk_x, zh_237_2_2, zts_s, zts_n, List.cons_append, List.nil_append]
theorem h_238v {x1 : Int32} {y : Int32} (hc : zCls h m w) (e : zEnd h m (zcall zP sv D 52 [.ref m, .int x1] h) N M (.inl (some (.int y))) w1) : zEnd h m (zcall zP sv (D + 1) 238 [.ref m, .int x1] h) N M (.inl (some (.int y))) w1 := by
  obtain ⟨h1, e, g⟩ := e
  refine ⟨h1, ?_, g⟩
  simp (disch := first | exact znw_u | exact znw_i) only [zc_238, zs_238_0, zs_238_0n, zs_238_1, zs_238_2, zs_238_5, zs_238_7, zs_238_10, zh_238_2_2, zEC1 hc, e, zbk_v, zts_s, zts_n, List.cons_append, List.nil_append]
theorem h_238e2 {x1 : Int32} (hc : zCls h m w) (e : zEnd h m (zcall zP sv D 52 [.ref m, .int x1] h) N M (.inr 2) w1) : zEnd h m (zcall zP sv (D + 1) 238 [.ref m, .int x1] h) N M (.inl (some (.int (-1001)))) w1 := by
  obtain ⟨h1, e, g⟩ := e
  refine ⟨h1, ?_, g⟩
  simp (disch := first | exact znw_u | exact znw_i) only [zc_238, zs_238_0, zs_238_0n, zs_238_1, zs_238_2, zs_238_5, zs_238_7, zs_238_10, zh_238_2_2, zEC1 hc, e, zbk_x, zh_238_2_2, zts_s, zts_n, List.cons_append, List.nil_append]
theorem h_239v {x1 : Int32} {y : Int32} (hc : zCls h m w) (e : zEnd h m (zcall zP sv D 53 [.ref m, .int x1] h) N M (.inl (some (.int y))) w1) : zEnd h m (zcall zP sv (D + 1) 239 [.ref m, .int x1] h) N M (.inl (some (.int y))) w1 := by
  obtain ⟨h1, e, g⟩ := e
  refine ⟨h1, ?_, g⟩
  simp (disch := first | exact znw_u | exact znw_i) only [zc_239, zs_239_0, zs_239_0n, zs_239_1, zs_239_2, zs_239_5, zs_239_7, zs_239_10, zh_239_2_2, zEC1 hc, e, zbk_v, zts_s, zts_n, List.cons_append, List.nil_append]
theorem h_239e2 {x1 : Int32} (hc : zCls h m w) (e : zEnd h m (zcall zP sv D 53 [.ref m, .int x1] h) N M (.inr 2) w1) : zEnd h m (zcall zP sv (D + 1) 239 [.ref m, .int x1] h) N M (.inl (some (.int (-1001)))) w1 := by
  obtain ⟨h1, e, g⟩ := e
  refine ⟨h1, ?_, g⟩
  simp (disch := first | exact znw_u | exact znw_i) only [zc_239, zs_239_0, zs_239_0n, zs_239_1, zs_239_2, zs_239_5, zs_239_7, zs_239_10, zh_239_2_2, zEC1 hc, e, zbk_x, zh_239_2_2, zts_s, zts_n, List.cons_append, List.nil_append]
theorem h_240v {x1 : Int32} {y : Int32} (hc : zCls h m w) (e : zEnd h m (zcall zP sv D 54 [.ref m, .int x1] h) N M (.inl (some (.int y))) w1) : zEnd h m (zcall zP sv (D + 1) 240 [.ref m, .int x1] h) N M (.inl (some (.int y))) w1 := by
  obtain ⟨h1, e, g⟩ := e
  refine ⟨h1, ?_, g⟩
  simp (disch := first | exact znw_u | exact znw_i) only [zc_240, zs_240_0, zs_240_0n, zs_240_1, zs_240_2, zs_240_5, zs_240_7, zs_240_10, zs_240_12, zs_240_15, zh_240_2_2, zh_240_2_4, zEC1 hc, e, zbk_v, zts_s, zts_n, List.cons_append, List.nil_append]
theorem h_240e2 {x1 : Int32} (hc : zCls h m w) (e : zEnd h m (zcall zP sv D 54 [.ref m, .int x1] h) N M (.inr 2) w1) : zEnd h m (zcall zP sv (D + 1) 240 [.ref m, .int x1] h) N M (.inl (some (.int (-1001)))) w1 := by
  obtain ⟨h1, e, g⟩ := e
  refine ⟨h1, ?_, g⟩
  simp (disch := first | exact znw_u | exact znw_i) only [zc_240, zs_240_0, zs_240_0n, zs_240_1, zs_240_2, zs_240_5, zs_240_7, zs_240_10, zs_240_12, zs_240_15, zh_240_2_2, zh_240_2_4, zEC1 hc, e, zbk_x, zh_240_2_2, zts_s, zts_n, List.cons_append, List.nil_append]
theorem h_240e4 {x1 : Int32} (hc : zCls h m w) (e : zEnd h m (zcall zP sv D 54 [.ref m, .int x1] h) N M (.inr 4) w1) : zEnd h m (zcall zP sv (D + 1) 240 [.ref m, .int x1] h) N M (.inl (some (.int (-1002)))) w1 := by
  obtain ⟨h1, e, g⟩ := e
  refine ⟨h1, ?_, g⟩
  simp (disch := first | exact znw_u | exact znw_i) only [zc_240, zs_240_0, zs_240_0n, zs_240_1, zs_240_2, zs_240_5, zs_240_7, zs_240_10, zs_240_12, zs_240_15, zh_240_2_2, zh_240_2_4, zEC1 hc, e, zbk_x, zh_240_2_4, zts_s, zts_n, List.cons_append, List.nil_append]
theorem h_241v {x1 : Int32} {x2 : Int32} {y : Int32} (hc : zCls h m w) (e : zEnd h m (zcall zP sv D 55 [.ref m, .int x1, .int x2] h) N M (.inl (some (.int y))) w1) : zEnd h m (zcall zP sv (D + 1) 241 [.ref m, .int x1, .int x2] h) N M (.inl (some (.int y))) w1 := by
  obtain ⟨h1, e, g⟩ := e
  refine ⟨h1, ?_, g⟩
  simp (disch := first | exact znw_u | exact znw_i) only [zc_241, zs_241_0, zs_241_0n, zs_241_1, zs_241_2, zs_241_3, zs_241_6, zs_241_8, zs_241_11, zh_241_3_2, zEC1 hc, e, zbk_v, zts_s, zts_n, List.cons_append, List.nil_append]
theorem h_241e2 {x1 : Int32} {x2 : Int32} (hc : zCls h m w) (e : zEnd h m (zcall zP sv D 55 [.ref m, .int x1, .int x2] h) N M (.inr 2) w1) : zEnd h m (zcall zP sv (D + 1) 241 [.ref m, .int x1, .int x2] h) N M (.inl (some (.int (-1001)))) w1 := by
  obtain ⟨h1, e, g⟩ := e
  refine ⟨h1, ?_, g⟩
  simp (disch := first | exact znw_u | exact znw_i) only [zc_241, zs_241_0, zs_241_0n, zs_241_1, zs_241_2, zs_241_3, zs_241_6, zs_241_8, zs_241_11, zh_241_3_2, zEC1 hc, e, zbk_x, zh_241_3_2, zts_s, zts_n, List.cons_append, List.nil_append]
theorem h_242v {x1 : Int32} {x2 : Int32} {y : Int32} (hc : zCls h m w) (e : zEnd h m (zcall zP sv D 56 [.ref m, .int x1, .int x2] h) N M (.inl (some (.int y))) w1) : zEnd h m (zcall zP sv (D + 1) 242 [.ref m, .int x1, .int x2] h) N M (.inl (some (.int y))) w1 := by
  obtain ⟨h1, e, g⟩ := e
  refine ⟨h1, ?_, g⟩
  simp (disch := first | exact znw_u | exact znw_i) only [zc_242, zs_242_0, zs_242_0n, zs_242_1, zs_242_2, zs_242_3, zs_242_6, zs_242_8, zs_242_11, zh_242_3_2, zEC1 hc, e, zbk_v, zts_s, zts_n, List.cons_append, List.nil_append]
theorem h_242e2 {x1 : Int32} {x2 : Int32} (hc : zCls h m w) (e : zEnd h m (zcall zP sv D 56 [.ref m, .int x1, .int x2] h) N M (.inr 2) w1) : zEnd h m (zcall zP sv (D + 1) 242 [.ref m, .int x1, .int x2] h) N M (.inl (some (.int (-1001)))) w1 := by
  obtain ⟨h1, e, g⟩ := e
  refine ⟨h1, ?_, g⟩
  simp (disch := first | exact znw_u | exact znw_i) only [zc_242, zs_242_0, zs_242_0n, zs_242_1, zs_242_2, zs_242_3, zs_242_6, zs_242_8, zs_242_11, zh_242_3_2, zEC1 hc, e, zbk_x, zh_242_3_2, zts_s, zts_n, List.cons_append, List.nil_append]
theorem h_243v {x1 : Int32} {x2 : Int32} {p : List Int32} (hc : zCls h m w) (e : zEnW h m (zcall zP sv D 57 [.ref m, .int x1, .int x2] h) p w1) : zEnW h m (zcall zP sv (D + 1) 243 [.ref m, .int x1, .int x2] h) p w1 := by
  obtain ⟨h1, e, g⟩ := e
  refine ⟨h1, ?_, g⟩
  simp (disch := first | exact znw_u | exact znw_i) only [zc_243, zs_243_0, zs_243_0n, zs_243_1, zs_243_2, zs_243_3, zs_243_6, zs_243_8, zs_243_11, zh_243_3_2, zEC1 hc, e, zbk_v, zts_s, zts_n, List.cons_append, List.nil_append]
theorem h_243e2 {x1 : Int32} {x2 : Int32} (hc : zCls h m w) (e : zEnd h m (zcall zP sv D 57 [.ref m, .int x1, .int x2] h) N M (.inr 2) w1) : zEnd h m (zcall zP sv (D + 1) 243 [.ref m, .int x1, .int x2] h) N M (.inl (some (.int (-1001)))) w1 := by
  obtain ⟨h1, e, g⟩ := e
  refine ⟨h1, ?_, g⟩
  simp (disch := first | exact znw_u | exact znw_i) only [zc_243, zs_243_0, zs_243_0n, zs_243_1, zs_243_2, zs_243_3, zs_243_6, zs_243_8, zs_243_11, zh_243_3_2, zEC1 hc, e, zbk_x, zh_243_3_2, zts_s, zts_n, List.cons_append, List.nil_append]
theorem h_244v {x1 : Int32} {p : List Int32} (hc : zCls h m w) (e : zEnW h m (zcall zP sv D 58 [.ref m, .int x1] h) p w1) : zEnW h m (zcall zP sv (D + 1) 244 [.ref m, .int x1] h) p w1 := by
  obtain ⟨h1, e, g⟩ := e
  refine ⟨h1, ?_, g⟩
  simp (disch := first | exact znw_u | exact znw_i) only [zc_244, zs_244_0, zs_244_0n, zs_244_1, zs_244_2, zs_244_5, zs_244_7, zs_244_10, zh_244_2_2, zEC1 hc, e, zbk_v, zts_s, zts_n, List.cons_append, List.nil_append]
theorem h_244e2 {x1 : Int32} (hc : zCls h m w) (e : zEnd h m (zcall zP sv D 58 [.ref m, .int x1] h) N M (.inr 2) w1) : zEnd h m (zcall zP sv (D + 1) 244 [.ref m, .int x1] h) N M (.inl (some (.int (-1001)))) w1 := by
  obtain ⟨h1, e, g⟩ := e
  refine ⟨h1, ?_, g⟩
  simp (disch := first | exact znw_u | exact znw_i) only [zc_244, zs_244_0, zs_244_0n, zs_244_1, zs_244_2, zs_244_5, zs_244_7, zs_244_10, zh_244_2_2, zEC1 hc, e, zbk_x, zh_244_2_2, zts_s, zts_n, List.cons_append, List.nil_append]
theorem h_245v {x1 : Int32} {y : Int32} (hc : zCls h m w) (e : zEnd h m (zcall zP sv D 59 [.ref m, .int x1] h) N M (.inl (some (.int y))) w1) : zEnd h m (zcall zP sv (D + 1) 245 [.ref m, .int x1] h) N M (.inl (some (.int y))) w1 := by
  obtain ⟨h1, e, g⟩ := e
  refine ⟨h1, ?_, g⟩
  simp (disch := first | exact znw_u | exact znw_i) only [zc_245, zs_245_0, zs_245_0n, zs_245_1, zs_245_2, zs_245_5, zs_245_7, zs_245_10, zh_245_2_2, zEC1 hc, e, zbk_v, zts_s, zts_n, List.cons_append, List.nil_append]
theorem h_245e2 {x1 : Int32} (hc : zCls h m w) (e : zEnd h m (zcall zP sv D 59 [.ref m, .int x1] h) N M (.inr 2) w1) : zEnd h m (zcall zP sv (D + 1) 245 [.ref m, .int x1] h) N M (.inl (some (.int (-1001)))) w1 := by
  obtain ⟨h1, e, g⟩ := e
  refine ⟨h1, ?_, g⟩
  simp (disch := first | exact znw_u | exact znw_i) only [zc_245, zs_245_0, zs_245_0n, zs_245_1, zs_245_2, zs_245_5, zs_245_7, zs_245_10, zh_245_2_2, zEC1 hc, e, zbk_x, zh_245_2_2, zts_s, zts_n, List.cons_append, List.nil_append]
theorem h_246v {x1 : Int32} {y : Int32} (hc : zCls h m w) (e : zEnd h m (zcall zP sv D 60 [.ref m, .int x1] h) N M (.inl (some (.int y))) w1) : zEnd h m (zcall zP sv (D + 1) 246 [.ref m, .int x1] h) N M (.inl (some (.int y))) w1 := by
  obtain ⟨h1, e, g⟩ := e
  refine ⟨h1, ?_, g⟩
  simp (disch := first | exact znw_u | exact znw_i) only [zc_246, zs_246_0, zs_246_0n, zs_246_1, zs_246_2, zs_246_5, zs_246_7, zs_246_10, zh_246_2_4, zEC1 hc, e, zbk_v, zts_s, zts_n, List.cons_append, List.nil_append]
theorem h_246e4 {x1 : Int32} (hc : zCls h m w) (e : zEnd h m (zcall zP sv D 60 [.ref m, .int x1] h) N M (.inr 4) w1) : zEnd h m (zcall zP sv (D + 1) 246 [.ref m, .int x1] h) N M (.inl (some (.int (-1001)))) w1 := by
  obtain ⟨h1, e, g⟩ := e
  refine ⟨h1, ?_, g⟩
  simp (disch := first | exact znw_u | exact znw_i) only [zc_246, zs_246_0, zs_246_0n, zs_246_1, zs_246_2, zs_246_5, zs_246_7, zs_246_10, zh_246_2_4, zEC1 hc, e, zbk_x, zh_246_2_4, zts_s, zts_n, List.cons_append, List.nil_append]
theorem h_247v  {y : UInt64} (hc : zCls h m w) (e : zEnd h m (zcall zP sv D 62 [.ref m] h) N M (.inl (some (.double y))) w1) : zEnd h m (zcall zP sv (D + 1) 247 [.ref m] h) N M (.inl (some (.double y))) w1 := by
  obtain ⟨h1, e, g⟩ := e
  refine ⟨h1, ?_, g⟩
  simp (disch := first | exact znw_u | exact znw_i) only [zc_247, zs_247_0, zs_247_0n, zs_247_1, zs_247_4, zs_247_6, zs_247_9, zh_247_1_5, zEC1 hc, e, zbk_v, zts_s, zts_n, List.cons_append, List.nil_append]
theorem h_247e5  (hc : zCls h m w) (e : zEnd h m (zcall zP sv D 62 [.ref m] h) N M (.inr 5) w1) : zEnd h m (zcall zP sv (D + 1) 247 [.ref m] h) N M (.inl (some (.double 13875388141788987392))) w1 := by
  obtain ⟨h1, e, g⟩ := e
  refine ⟨h1, ?_, g⟩
  simp (disch := first | exact znw_u | exact znw_i) only [zc_247, zs_247_0, zs_247_0n, zs_247_1, zs_247_4, zs_247_6, zs_247_9, zh_247_1_5, zEC1 hc, e, zbk_x, zh_247_1_5, zts_s, zts_n, List.cons_append, List.nil_append]
theorem h_248v {x1 : Int32} {y : UInt32} (hc : zCls h m w) (e : zEnd h m (zcall zP sv D 63 [.ref m, .int x1] h) N M (.inl (some (.float y))) w1) : zEnd h m (zcall zP sv (D + 1) 248 [.ref m, .int x1] h) N M (.inl (some (.float y))) w1 := by
  obtain ⟨h1, e, g⟩ := e
  refine ⟨h1, ?_, g⟩
  simp (disch := first | exact znw_u | exact znw_i) only [zc_248, zs_248_0, zs_248_0n, zs_248_1, zs_248_2, zs_248_5, zs_248_7, zs_248_9, zh_248_2_2, zEC1 hc, e, zbk_v, zts_s, zts_n, List.cons_append, List.nil_append]
theorem h_248e2 {x1 : Int32} (hc : zCls h m w) (e : zEnd h m (zcall zP sv D 63 [.ref m, .int x1] h) N M (.inr 2) w1) : zEnd h m (zcall zP sv (D + 1) 248 [.ref m, .int x1] h) N M (.inl (some (.float 3296346112))) w1 := by
  obtain ⟨h1, e, g⟩ := e
  refine ⟨h1, ?_, g⟩
  simp (disch := first | exact znw_u | exact znw_i) only [zc_248, zs_248_0, zs_248_0n, zs_248_1, zs_248_2, zs_248_5, zs_248_7, zs_248_9, zh_248_2_2, zEC1 hc, e, zbk_x, zh_248_2_2, zts_s, zts_n, List.cons_append, List.nil_append]
theorem h_249v  {y : Int32} (hc : zCls h m w) (e : zEnd h m (zcall zP sv D 65 [.ref m] h) N M (.inl (some (.int y))) w1) : zEnd h m (zcall zP sv (D + 1) 249 [.ref m] h) N M (.inl (some (.int y))) w1 := by
  obtain ⟨h1, e, g⟩ := e
  refine ⟨h1, ?_, g⟩
  simp (disch := first | exact znw_u | exact znw_i) only [zc_249, zs_249_0, zs_249_0n, zs_249_1, zs_249_4, zs_249_6, zs_249_9, zh_249_1_4, zEC1 hc, e, zbk_v, zts_s, zts_n, List.cons_append, List.nil_append]
theorem h_249e4  (hc : zCls h m w) (e : zEnd h m (zcall zP sv D 65 [.ref m] h) N M (.inr 4) w1) : zEnd h m (zcall zP sv (D + 1) 249 [.ref m] h) N M (.inl (some (.int (-1001)))) w1 := by
  obtain ⟨h1, e, g⟩ := e
  refine ⟨h1, ?_, g⟩
  simp (disch := first | exact znw_u | exact znw_i) only [zc_249, zs_249_0, zs_249_0n, zs_249_1, zs_249_4, zs_249_6, zs_249_9, zh_249_1_4, zEC1 hc, e, zbk_x, zh_249_1_4, zts_s, zts_n, List.cons_append, List.nil_append]
theorem h_250v  {y : Int32} (hc : zCls h m w) (e : zEnd h m (zcall zP sv D 67 [.ref m] h) N M (.inl (some (.int y))) w1) : zEnd h m (zcall zP sv (D + 1) 250 [.ref m] h) N M (.inl (some (.int y))) w1 := by
  obtain ⟨h1, e, g⟩ := e
  refine ⟨h1, ?_, g⟩
  simp (disch := first | exact znw_u | exact znw_i) only [zc_250, zs_250_0, zs_250_0n, zs_250_1, zs_250_4, zs_250_6, zs_250_9, zh_250_1_0, zEC1 hc, e, zbk_v, zts_s, zts_n, List.cons_append, List.nil_append]
theorem h_250e0  (hc : zCls h m w) (e : zEnd h m (zcall zP sv D 67 [.ref m] h) N M (.inr 0) w1) : zEnd h m (zcall zP sv (D + 1) 250 [.ref m] h) N M (.inl (some (.int (-1001)))) w1 := by
  obtain ⟨h1, e, g⟩ := e
  refine ⟨h1, ?_, g⟩
  simp (disch := first | exact znw_u | exact znw_i) only [zc_250, zs_250_0, zs_250_0n, zs_250_1, zs_250_4, zs_250_6, zs_250_9, zh_250_1_0, zEC1 hc, e, zbk_x, zh_250_1_0, zts_s, zts_n, List.cons_append, List.nil_append]
theorem h_251v  {y : Int32} (hc : zCls h m w) (e : zEnd h m (zcall zP sv D 69 [.ref m] h) N M (.inl (some (.int y))) w1) : zEnd h m (zcall zP sv (D + 1) 251 [.ref m] h) N M (.inl (some (.int y))) w1 := by
  obtain ⟨h1, e, g⟩ := e
  refine ⟨h1, ?_, g⟩
  simp (disch := first | exact znw_u | exact znw_i) only [zc_251, zs_251_0, zs_251_0n, zs_251_1, zs_251_4, zs_251_6, zs_251_9, zh_251_1_0, zEC1 hc, e, zbk_v, zts_s, zts_n, List.cons_append, List.nil_append]
theorem h_251e0  (hc : zCls h m w) (e : zEnd h m (zcall zP sv D 69 [.ref m] h) N M (.inr 0) w1) : zEnd h m (zcall zP sv (D + 1) 251 [.ref m] h) N M (.inl (some (.int (-1001)))) w1 := by
  obtain ⟨h1, e, g⟩ := e
  refine ⟨h1, ?_, g⟩
  simp (disch := first | exact znw_u | exact znw_i) only [zc_251, zs_251_0, zs_251_0n, zs_251_1, zs_251_4, zs_251_6, zs_251_9, zh_251_1_0, zEC1 hc, e, zbk_x, zh_251_1_0, zts_s, zts_n, List.cons_append, List.nil_append]
theorem h_252v {x1 : Int32} {x2 : Int32} {y : Int32} (hc : zCls h m w) (e : zEnd h m (zcall zP sv D 31 [.ref m, .int x1, .int x2] h) N M (.inl (some (.int y))) w1) : zEnd h m (zcall zP sv (D + 1) 252 [.ref m, .int x1, .int x2] h) N M (.inl (some (.int y))) w1 := by
  obtain ⟨h1, e, g⟩ := e
  refine ⟨h1, ?_, g⟩
  simp (disch := first | exact znw_u | exact znw_i) only [zc_252, zs_252_0, zs_252_0n, zs_252_1, zs_252_2, zs_252_3, zs_252_6, zs_252_8, zs_252_10, zh_252_3_1, zEC1 hc, e, zbk_v, zts_s, zts_n, List.cons_append, List.nil_append]
theorem h_252e1 {x1 : Int32} {x2 : Int32} (hc : zCls h m w) (e : zEnd h m (zcall zP sv D 31 [.ref m, .int x1, .int x2] h) N M (.inr 1) w1) : zEnd h m (zcall zP sv (D + 1) 252 [.ref m, .int x1, .int x2] h) N M (.inl (some (.int (nI 100000)))) w1 := by
  obtain ⟨h1, e, g⟩ := e
  refine ⟨h1, ?_, g⟩
  simp (disch := first | exact znw_u | exact znw_i) only [zc_252, zs_252_0, zs_252_0n, zs_252_1, zs_252_2, zs_252_3, zs_252_6, zs_252_8, zs_252_10, zh_252_3_1, zEC1 hc, e, zbk_x, zh_252_3_1, zts_s, zts_n, List.cons_append, List.nil_append]
end ZHL

section ZST
variable {sv : Nat → Value} {d : Nat}
/-- a sign of the first 128 -/
def yas7 (x : Int32) : Prop := ∃ k, k < 128 ∧ x = nI k
theorem yas7d : ∀ k, k < 128 → zty 6 (.int (nI k)) = true ∧ zty 7 (.int (nI k)) = true ∧ ycr (nI k) = nI k ∧ ynr (nI k) = nI k := by decide +kernel
theorem yas7_ty {x : Int32} (h : yas7 x) : zty 6 (.int x) = true := by
  obtain ⟨k, hk, rfl⟩ := h
  exact (yas7d k hk).1
theorem yas7_7 {x : Int32} (h : yas7 x) : zty 7 (.int x) = true := by
  obtain ⟨k, hk, rfl⟩ := h
  exact (yas7d k hk).2.1
theorem yas7_c {x : Int32} (h : yas7 x) : ycr x = x := by
  obtain ⟨k, hk, rfl⟩ := h
  exact (yas7d k hk).2.2.1
theorem yas7_n {x : Int32} (h : yas7 x) : ynr x = x := by
  obtain ⟨k, hk, rfl⟩ := h
  exact (yas7d k hk).2.2.2
/-- a String at s with its bytes at a: made in the run, or a constant -/
def zStr (h : zH) (s a : Nat) (bs : List Int32) : Prop := ((h.1 s = (13, [.ref a, .int 0, .int 0, .int 0]) ∧ h.1 a = (24, bs.map Value.int)) ∨ (h.1 s = (19, [.ref a, .int 0]) ∧ h.1 a = (27, bs.map Value.int))) ∧ s < h.2.1 ∧ a < h.2.1 ∧ bs.length ≤ 60 ∧ ∀ x, x ∈ bs → yas7 x
variable {h : zH} {s a r v : Nat} {bs B o : List Int32}
theorem zStr_rc (hs : zStr h s a bs) (X : zR) : zrc (h.1 s) 13 X = X := by
  rcases hs.1 with ⟨e, _⟩ | ⟨e, _⟩
  · rw [e]; exact zrc_k
  · rw [e]; exact zrc_19
theorem zStr_f0 (hs : zStr h s a bs) (K : Value → zR) : zfld (h.1 s) 13 0 K = K (.ref a) := by
  rcases hs.1 with ⟨e, _⟩ | ⟨e, _⟩
  · rw [e]; exact zf_13_0
  · rw [e]; exact zf_19_0
theorem zStr_f1 (hs : zStr h s a bs) (K : Value → zR) : zfld (h.1 s) 13 1 K = K (.int 0) := by
  rcases hs.1 with ⟨e, _⟩ | ⟨e, _⟩
  · rw [e]; exact zf_13_1
  · rw [e]; exact zf_19_1
theorem zStr_ln (hs : zStr h s a bs) (K : Int32 → zR) : zaln (h.1 a) K = K (nI bs.length) := by
  rcases hs.1 with ⟨_, e⟩ | ⟨_, e⟩
  · rw [e, zaln_k (by decide), List.length_map]
  · rw [e, zaln_k (by decide), List.length_map]
theorem ygetD {i : Nat} (hi : i < bs.length) : bs.getD i 0 = bs[i] := by
  rw [List.getD_eq_getElem?_getD, List.getElem?_eq_getElem hi]
  rfl
theorem zStr_el {i : Nat} (hs : zStr h s a bs) (hi : i < bs.length) (K : Value → zR) : zael (h.1 a) 24 (nI i) K = K (.int (bs.getD i 0)) := by
  have hl := hs.2.2.2.1
  rw [ygetD hi]
  rcases hs.1 with ⟨_, e⟩ | ⟨_, e⟩
  · rw [e]; exact zael_r hi (by omega)
  · rw [e, zael_27]; exact zael_r hi (by omega)
theorem zStr_as {i : Nat} (hs : zStr h s a bs) (hi : i < bs.length) : yas7 (bs.getD i 0) := by
  rw [ygetD hi]
  exact hs.2.2.2.2 _ (List.getElem_mem hi)
theorem zty_60 : zty 6 (.int 0) = true := rfl
theorem s_197 (hz : sv 0 = .int (nI 1)) (hs : zStr h s a bs) : zcall zP sv (d + 1) 197 [.ref s] h = some (.inl (some (.int 0)), h) := by
  simp only [zc_197, zs_197_0, zs_197_3, zs_197_6, zs_197_6n, zs_197_7, zs_197_10, zs_197_13, zs_197_14, hz, nI_1e0, zStr_f1 hs, zty_60, zgd_t, ↓reduceIte]
theorem s_198 (hz : sv 0 = .int (nI 1)) (hs : zStr h s a bs) : zcall zP sv (d + 1) 198 [.ref s] h = some (.inl (some (.int (nI 1))), h) := by
  simp only [zc_198, zs_198_0, zs_198_3, zs_198_6, zs_198_6n, zs_198_7, zs_198_10, zs_198_13, zs_198_14, zs_198_17, zs_198_18, hz, nI_1e0, zStr_f1 hs, zty_51, zgd_t, ↓reduceIte]
theorem s_196 (hz : sv 0 = .int (nI 1)) (hs : zStr h s a bs) : zcall zP sv (d + 2) 196 [.ref s] h = some (.inl (some (.int (nI bs.length))), h) := by
  have e := s_197 (d := d) hz hs
  simp (disch := first | exact znw_u | exact znw_i) only [zc_196, zs_196_0, zs_196_0n, zs_196_1, zs_196_4, zs_196_5, zs_196_5n, zs_196_6, zs_196_9, zs_196_10, zStr_f0 hs, zStr_ln hs, zStr_rc hs, e, zsh_r, zbk_v, zts_s, List.cons_append, List.nil_append]
theorem s_18 {n L : Nat} (h3' : zty 4 (sv 3) = true) (hn : n < L) (hL : L < 2 ^ 30) : zcall zP sv (d + 2) 18 [.int (nI n), .int (nI L)] h = some (.inl none, h) := by
  have c0 : ¬ nI n < 0 := nI_pos (by omega)
  have c1 : nI n < nI L := nI_lt hn (by omega)
  have e19 : zcall zP sv (d + 1) 19 [.int (nI n), .int (nI L), sv 3] h = some (.inl (some (.int (nI n))), h) := by
    have zc : zcall zP sv (d + 1) 19 [.int (nI n), .int (nI L), sv 3] h = zrun zP sv (zcall zP sv d) 19 0 [.val (.int (nI n)), .val (.int (nI L)), .val (sv 3)] [] h := by
      cases hz : sv 3 with
      | null => exact zcall_s (n := 3) rfl rfl (Nat.le_of_ble_eq_true rfl)
      | ref a => exact zcall_s (n := 3) rfl rfl (Nat.le_of_ble_eq_true rfl)
      | int x => rw [hz] at h3'; cases h3'
      | long x => rw [hz] at h3'; cases h3'
      | float x => rw [hz] at h3'; cases h3'
      | double x => rw [hz] at h3'; cases h3'
      | retAddr x => rw [hz] at h3'; cases h3'
    rw [zc]
    simp (disch := first | exact znw_u | exact znw_i) only [zs_19_0, zs_19_1, zs_19_4, zs_19_5, zs_19_6, zs_19_16, zs_19_17, if_neg c0, if_pos c1]
  simp (disch := first | exact znw_u | exact znw_i) only [zc_18, zs_18_0, zs_18_1, zs_18_2, zs_18_5, zs_18_8, zs_18_9, e19, zbk_v, zts_s, List.cons_append, List.nil_append]
theorem s_200 {i : Nat} (h3' : zty 4 (sv 3) = true) (hs : zStr h s a bs) (hi : i < bs.length) : zcall zP sv (d + 3) 200 [.ref a, .int (nI i)] h = some (.inl (some (.int (bs.getD i 0))), h) := by
  have hl := hs.2.2.2.1
  have e18 := s_18 (d := d) (h := h) h3' hi (by omega)
  have q := zStr_as hs hi
  have e3 : ((bs.getD i 0 &&& nI 255).toUInt32 % 65536).toInt32 = bs.getD i 0 := yas7_c q
  have z7 := yas7_7 q
  simp (disch := first | exact znw_u | exact znw_i) only [zc_200, zs_200_0, zs_200_1, zs_200_1n, zs_200_2, zs_200_3, zs_200_6, zs_200_6n, zs_200_7, zs_200_8, zs_200_9, zs_200_12, zs_200_13, zs_200_14, zStr_ln hs, e18, zStr_el hs hi, e3, z7, zgd_t, zbk_v, zts_n, List.cons_append, List.nil_append]
theorem s_199 {i : Nat} (hz : sv 0 = .int (nI 1)) (h3' : zty 4 (sv 3) = true) (hs : zStr h s a bs) (hi : i < bs.length) : zcall zP sv (d + 4) 199 [.ref s, .int (nI i)] h = some (.inl (some (.int (bs.getD i 0))), h) := by
  have e1 : zcall zP sv (d + 3) 198 [.ref s] h = _ := s_198 (d := d + 2) hz hs
  have e2 := s_200 (d := d) h3' hs hi
  have z7 := yas7_7 (zStr_as hs hi)
  simp (disch := first | exact znw_u | exact znw_i) only [zc_199, zs_199_0, zs_199_0n, zs_199_1, zs_199_4, zs_199_7, zs_199_7n, zs_199_8, zs_199_11, zs_199_12, zs_199_15, zs_199_16, zs_199_16n, zs_199_17, zs_199_20, zStr_rc hs, zStr_f0 hs, e1, nI_1e0, e2, z7, zgd_t, zbk_v, zts_s, ↓reduceIte, List.cons_append, List.nil_append]
theorem s_204 (hz : sv 0 = .int (nI 1)) (hb : zBl h r v B o) (hs : zStr h s a bs) : zcall zP sv (d + 2) 204 [.ref r, .ref s] h = some (.inl none, h) := by
  obtain ⟨⟨u, e⟩, _⟩ := hb
  have e1 := s_197 (d := d) hz hs
  simp (disch := first | exact znw_u | exact znw_i) only [zc_204, zs_204_0, zs_204_3, zs_204_6, zs_204_6n, zs_204_7, zs_204_10, zs_204_10n, zs_204_11, zs_204_14, zs_204_17, zs_204_17n, zs_204_21, hz, nI_1e0, e, zrc_2, zf_2_0, zp_2_0, zp_2_0n, zf_2_1, zp_2_10, zp_2_11, zf_2_2, zp_2_20, zp_2_21, zf_2_3, zp_2_3, zStr_rc hs, e1, zbk_v, zts_s, ↓reduceIte, List.cons_append, List.nil_append]
theorem zcopy_g {pc a b n p : Nat} {ls : List Slot} {st : List Value} {h : zH} {va vb : List Value} (ha : zkk 24 (h.1 a).1 = true) (hv : (h.1 a).2 = va) (hb : h.1 b = (24, vb)) (hab : a ≠ b) (hn : n ≤ va.length) (hm : p + n ≤ vb.length) (h3 : p + n < 2 ^ 31) (hst : st.length ≤ 4) (hty : va.all (zty 6) = true) : zcopy pc ls (.int (nI n) :: .int (nI p) :: .ref b :: .int 0 :: .ref a :: st) h = zgo pc ls st (zup h b (24, vb.take p ++ (va.take n ++ vb.drop (p + n)))) := by
  have z0 : (0 : Int32).toNatClampNeg = 0 := rfl
  have zi : ¬ (0 : Int32) < 0 := by decide
  unfold zcopy
  simp only [hb, hv, z0, nI_clamp (show n < 2 ^ 31 by omega), nI_clamp (show p < 2 ^ 31 by omega), Nat.zero_add, List.drop_zero]
  rw [if_pos ⟨ha, trivial, hab, zi, nI_pos (by omega), nI_pos (by omega), hn, hm, hst, hty⟩]
theorem zStr_kk (hs : zStr h s a bs) : zkk 24 (h.1 a).1 = true ∧ (h.1 a).2 = bs.map Value.int := by
  rcases hs.1 with ⟨_, e⟩ | ⟨_, e⟩
  · rw [e]; exact ⟨rfl, rfl⟩
  · rw [e]; exact ⟨rfl, rfl⟩
theorem s_205 {p : Nat} (hz : sv 0 = .int (nI 1)) (hs : zStr h s a bs) (hv : h.1 v = (24, B.map Value.int)) (hav : a ≠ v) (hp : p + bs.length ≤ B.length) (hB : B.length ≤ 1000) : zcall zP sv (d + 2) 205 [.ref s, .ref v, .int (nI p), .int 0] h = some (.inl none, zup h v (24, (yput B p bs).map Value.int)) := by
  obtain ⟨k1, k2⟩ := zStr_kk hs
  have e1 := s_197 (d := d) hz hs
  have hlb : (bs.map Value.int).length = bs.length := List.length_map ..
  have hcp := zcopy_g (pc := 25) (n := bs.length) (p := p) (ls := [.val (.ref s), .val (.ref v), .val (.int (nI p)), .val (.int 0)]) (st := []) k1 k2 hv hav (by rw [hlb]; exact Nat.le_refl _) (by rw [List.length_map]; exact hp) (by omega) (Nat.zero_le _) (by
    rw [List.all_map, List.all_eq_true]
    exact fun x hx => yas7_ty (hs.2.2.2.2 x hx))
  have ek : (B.map Value.int).take p ++ ((bs.map Value.int).take bs.length ++ (B.map Value.int).drop (p + bs.length)) = (yput B p bs).map Value.int := by
    unfold yput
    rw [List.map_append, List.map_append, List.map_take, List.map_drop, List.take_of_length_le (Nat.le_of_eq hlb)]
  rw [ek] at hcp
  simp (disch := first | exact znw_u | exact znw_i) only [zc_205, zs_205_0, zs_205_0n, zs_205_1, zs_205_4, zs_205_5, zs_205_8, zs_205_8n, zs_205_9, zs_205_12, zs_205_13, zs_205_13n, zs_205_14, zs_205_15, zs_205_16, zs_205_17, zs_205_17n, zs_205_18, zs_205_21, zs_205_25, zs_205_28, zs_205_28n, zs_205_29, zs_205_32, zs_205_33, zs_205_33n, zs_205_34, zs_205_35, zs_205_35n, zs_205_36, zs_205_39, zs_205_43, zStr_rc hs, zStr_f0 hs, zStr_ln hs, e1, zsh_l, zs_205_22, hcp, znx, zgo, zbk_v, zts_s, ↓reduceIte, List.cons_append, List.nil_append]
theorem s_203 {p : Nat} (hz : sv 0 = .int (nI 1)) (hb : zBl h r v B o) (hs : zStr h s a bs) (hav : a ≠ v) (hp : p + bs.length ≤ B.length) : zcall zP sv (d + 3) 203 [.ref r, .int (nI p), .ref s] h = some (.inl none, zup h v (24, (yput B p bs).map Value.int)) := by
  have e1 : zcall zP sv (d + 2) 204 [.ref r, .ref s] h = _ := s_204 (d := d) hz hb hs
  have rc : ∀ X : zR, zrc (h.1 r) 2 X = X := fun X => zBl_rc hb X
  obtain ⟨⟨u, e⟩, ev, _, _, _, hL, _⟩ := hb
  have e2 := s_205 (d := d) (p := p) hz hs ev hav hp hL
  simp (disch := first | exact znw_u | exact znw_i) only [zc_203, zs_203_0, zs_203_0n, zs_203_1, zs_203_1n, zs_203_2, zs_203_5, zs_203_5n, zs_203_6, zs_203_6n, zs_203_7, zs_203_10, zs_203_11, zs_203_11n, zs_203_12, zs_203_15, zs_203_18, e, zrc_2, zf_2_0, zp_2_0, zp_2_0n, zf_2_1, zp_2_10, zp_2_11, zf_2_2, zp_2_20, zp_2_21, zf_2_3, zp_2_3, zStr_rc hs, e1, e2, zbk_v, zts_n, List.cons_append, List.nil_append]
theorem zStr_ne (hs : zStr h s a bs) (hb : zBl h r v B o) : s ≠ r ∧ s ≠ v ∧ a ≠ r := by
  obtain ⟨k1, k2⟩ := zBl_k hb
  refine ⟨fun q => ?_, fun q => ?_, fun q => ?_⟩
  · subst q
    rcases hs.1 with ⟨e, _⟩ | ⟨e, _⟩
    · rw [e] at k1; exact absurd (show (13 : Nat) = 2 from k1) (by decide)
    · rw [e] at k1; exact absurd (show (19 : Nat) = 2 from k1) (by decide)
  · subst q
    rcases hs.1 with ⟨e, _⟩ | ⟨e, _⟩
    · rw [e] at k2; exact absurd (show (13 : Nat) = 24 from k2) (by decide)
    · rw [e] at k2; exact absurd (show (19 : Nat) = 24 from k2) (by decide)
  · subst q
    rcases hs.1 with ⟨_, e⟩ | ⟨_, e⟩
    · rw [e] at k1; exact absurd (show (24 : Nat) = 2 from k1) (by decide)
    · rw [e] at k1; exact absurd (show (27 : Nat) = 2 from k1) (by decide)
theorem zStr_q {h' : zH} (hs : zStr h s a bs) (h1 : h'.1 s = h.1 s) (h2 : h'.1 a = h.1 a) (h3 : h.2.1 ≤ h'.2.1) : zStr h' s a bs := by
  obtain ⟨z, s1, s2, s3⟩ := hs
  exact ⟨by rw [h1, h2]; exact z, Nat.lt_of_lt_of_le s1 h3, Nat.lt_of_lt_of_le s2 h3, s3⟩
theorem zStr_bo {h' : zH} {B' : List Int32} (hs : zStr h s a bs) (hb : zBl h r v B o) (hav : a ≠ v) (hz : zbo r v B B' h h') : zStr h' s a bs := by
  obtain ⟨n1, n2, n3⟩ := zStr_ne hs hb
  exact zStr_q hs (hz.1 s hs.2.1 n1 n2) (hz.1 a hs.2.2.1 n3 hav) hz.2.1
theorem ytake_put {B o bs : List Int32} (h1 : B.take o.length = o) : (yput B o.length bs).take (o ++ bs).length = o ++ bs := by
  unfold yput
  rw [h1, ← List.append_assoc]
  exact List.take_left' rfl
/-- the builder's append of a String -/
theorem s_201 (hz : sv 0 = .int (nI 1)) (hb : zBl h r v B o) (hs : zStr h s a bs) (hav : a ≠ v) (ho : o.length + bs.length ≤ 450) : zAd r v B o h (zcall zP sv (d + 5) 201 [.ref r, .ref s] h) (some (.ref r)) bs := by
  have hl := hs.2.2.2.1
  have e1 : zcall zP sv (d + 3) 196 [.ref s] h = _ := s_196 (d := d + 1) hz hs
  obtain ⟨h1, v1, B1, e2, b1, w1, f1, l1⟩ := d_4 (sv := sv) (d := d) hb ho
  have ne := zStr_ne hs hb
  have av1 : a ≠ v1 := by
    rcases w1 with rfl | q
    · exact hav
    · have := hs.2.2.1; omega
  have hs1 := zStr_bo hs hb hav f1
  have e3 := s_203 (d := d) (p := o.length) hz b1 hs1 av1 (by omega)
  have rc : ∀ X : zR, zrc (h.1 r) 2 X = X := fun X => zBl_rc hb X
  have rc1 : ∀ X : zR, zrc (h1.1 r) 2 X = X := fun X => zBl_rc b1 X
  obtain ⟨⟨u, e⟩, _⟩ := hb
  obtain ⟨⟨u1, g⟩, gv, ⟨b5, b6, b7⟩, b8, b9, b10, b11⟩ := b1
  have lp : (yput B1 o.length bs).length = B1.length := yput_len (by omega)
  have la : (o ++ bs).length = o.length + bs.length := List.length_append
  have er : (zup h1 v1 (24, (yput B1 o.length bs).map Value.int)).1 r = (2, [.ref v1, .int 0, .int u1, .int (nI o.length)]) := by rw [zup_ne (Ne.symm b7), g]
  have e202 : zcall zP sv (d + 4) 202 [.ref r, .ref s] h = some (.inl (some (.ref r)), zup (zup h1 v1 (24, (yput B1 o.length bs).map Value.int)) r (2, [.ref v1, .int 0, .int u1, .int (nI (o.length + bs.length))])) := by
    simp (disch := first | exact znw_u | exact znw_i) only [zc_202, zs_202_0, zs_202_0n, zs_202_1, zs_202_1n, zs_202_4, zs_202_4n, zs_202_9, zs_202_9n, zs_202_10, zs_202_13, zs_202_14, zs_202_14n, zs_202_15, zs_202_15n, zs_202_16, zs_202_19, zs_202_20, zs_202_21, zs_202_24, zs_202_24n, zs_202_25, zs_202_25n, zs_202_26, zs_202_29, zs_202_29n, zs_202_30, zs_202_33, zs_202_33n, zs_202_34, zs_202_35, zs_202_38, zs_202_39, zs_202_40, zs_202_43, zs_202_43n, zs_202_44, zs_202_44n, zStr_rc hs, e1, e, zrc_2, zf_2_0, zp_2_0, zp_2_0n, zf_2_1, zp_2_10, zp_2_11, zf_2_2, zp_2_20, zp_2_21, zf_2_3, zp_2_3, nI_add, rc, e2, g, rc1, e3, er, zbk_v, zts_s, zts_n, List.cons_append, List.nil_append]
  refine ⟨zup (zup h1 v1 (24, (yput B1 o.length bs).map Value.int)) r (2, [.ref v1, .int 0, .int u1, .int (nI (o.length + bs.length))]), v1, yput B1 o.length bs, ?_, ⟨⟨u1, by rw [zup_at, la]⟩, by rw [zup_ne b7, zup_at], ⟨b5, b6, b7⟩, by rw [lp, la]; omega, ytake_put b9, by rw [lp]; exact b10, fun x hx => (yput_mem hx).elim (b11 x) (fun q => yas7_ty (hs.2.2.2.2 x q))⟩, w1, ⟨fun q q1 q2 q3 => by rw [zup_ne q2, zup_ne (by omega), f1.1 q q1 q2 q3], f1.2.1, by rw [lp]; exact f1.2.2.1, by rw [lp]; exact f1.2.2.2.1, by rw [lp]; exact f1.2.2.2.2⟩⟩
  simp (disch := first | exact znw_u | exact znw_i) only [zc_201, zs_201_0, zs_201_0n, zs_201_1, zs_201_1n, zs_201_2, zs_201_5, zs_201_5n, zs_201_6, zs_201_6n, zs_201_7, zs_201_7n, rc, e202, zbk_v, zts_s, List.cons_append, List.nil_append]
theorem s_212 {L : Nat} (hL : L < 2 ^ 30) : zcall zP sv (d + 1) 212 [.int 0, .int (nI L)] h = some (.inl none, h) := by
  have c : ¬ nI L < 0 := nI_pos (by omega)
  simp (disch := first | exact znw_u | exact znw_i) only [zc_212, zs_212_0, zs_212_1, zs_212_2, zs_212_37, if_neg c]
theorem s_210 (hb : zBl h r v B o) : ∃ h', zcall zP sv (d + 3) 210 [.ref v, .int 0, .int (nI o.length)] h = some (.inl (some (.ref h.2.1)), h') ∧ h'.1 h.2.1 = (24, o.map Value.int) ∧ (∀ q, q < h.2.1 → h'.1 q = h.1 q) ∧ h'.2.1 = h.2.1 + 1 ∧ h'.2.2 = h.2.2 + o.length := by
  obtain ⟨⟨u, e⟩, ev, ⟨hr, hv, hvr⟩, ho, ht, hL, hty⟩ := hb
  have hl : (B.map Value.int).length = B.length := List.length_map ..
  have hall : (B.map Value.int).all (zty 6) = true := by
    rw [List.all_map, List.all_eq_true]
    exact hty
  by_cases c : o.length = B.length
  · have eB : o = B := by rw [← ht, c, List.take_length]
    subst eB
    have g1 : (znew h (24, o.map Value.int) o.length).1 h.2.1 = (24, o.map Value.int) := by rw [zext_of, zext_0]
    have ck : ∀ X : zR, zck24 (24, o.map Value.int) X = X := fun X => if_pos rfl
    have cl : ∀ K : List Value → zR, zcle (24, o.map Value.int) K = K (o.map Value.int) := fun K => if_pos ⟨rfl, hall⟩
    refine ⟨znew h (24, o.map Value.int) o.length, ?_, g1, fun q hq => by rw [zext_of, zext_lo hq], rfl, rfl⟩
    simp (disch := first | exact znw_u | exact znw_i) only [zc_210, zs_210_0, zs_210_1, zs_210_4, zs_210_5, zs_210_5n, zs_210_6, zs_210_7, zs_210_10, zs_210_10n, zs_210_11, zs_210_12, zs_210_13, zs_210_16, zs_210_16n, zs_210_17, zs_210_17n, zs_210_18, zs_210_21, zs_210_24, zs_210_24n, ev, zaln_k (show 20 ≤ 24 by omega), hl, cl, g1, ck, ↓reduceIte, List.cons_append, List.nil_append]
  · have hlt : o.length < B.length := by omega
    have c1 : ¬ nI o.length = nI B.length := fun q => c ((nI_eq (by omega) (by omega)).mp q)
    have e212 : zcall zP sv (d + 1) 212 [.int 0, .int (nI o.length)] h = _ := s_212 (d := d) (by omega)
    obtain ⟨h1, hh1⟩ : ∃ h1, h1 = znew h (24, List.replicate o.length (.int 0)) o.length := ⟨_, rfl⟩
    have g1 : h1.1 h.2.1 = (24, List.replicate o.length (.int 0)) := by rw [hh1, zext_of, zext_0]
    have g2 : h1.1 v = (24, B.map Value.int) := by rw [hh1, zext_of, zext_lo hv, ev]
    have em : (if nI o.length < nI B.length then nI o.length else nI B.length) = nI o.length := if_pos (nI_lt hlt (by omega))
    have s0 : ∀ x : Int32, x - 0 = x := fun x => Int32.sub_zero x
    have hcp := zcopy_k (L := 0) (pc := 30) (ls := [.val (.ref v), .val (.int 0), .val (.int (nI o.length)), .val (.int (nI o.length)), .val (.ref h.2.1)]) (st := []) (h := h1) (n := o.length) g2 g1 (by omega) (by rw [hl]; exact ho) (by rw [List.length_replicate]; exact Nat.le_refl _) (by omega) (Nat.zero_le _) hall
    have ek : (B.map Value.int).take o.length ++ (List.replicate o.length (Value.int 0)).drop o.length = o.map Value.int := by
      rw [List.drop_of_length_le (by rw [List.length_replicate]; exact Nat.le_refl _), List.append_nil, ← List.map_take, ht]
    rw [ek] at hcp
    have e211 : zcall zP sv (d + 2) 211 [.ref v, .int 0, .int (nI o.length)] h = some (.inl (some (.ref h.2.1)), zup h1 h.2.1 (24, o.map Value.int)) := by
      simp (disch := first | exact znw_u | exact znw_i | exact znw_r) only [zc_211, zs_211_0, zs_211_1, zs_211_2, zs_211_5, zs_211_6, zs_211_7, zs_211_8, zs_211_9, zs_211_10, zs_211_12, zs_211_12n, zs_211_14, zs_211_14n, zs_211_15, zs_211_16, zs_211_16n, zs_211_18, zs_211_19, zs_211_19n, zs_211_20, zs_211_21, zs_211_22, zs_211_23, zs_211_24, zs_211_30, zs_211_30n, zs_211_32, zs_211_32n, e212, s0, znwa_k (show o.length ≤ 65536 by omega), ← hh1, g2, zaln_k (show 20 ≤ 24 by omega), hl, em, zs_211_27, hcp, znx, zgo, zbk_v, zts_n, List.cons_append, List.nil_append]
    refine ⟨zup h1 h.2.1 (24, o.map Value.int), ?_, zup_at, fun q hq => by rw [zup_ne (by omega), hh1, zext_of, zext_lo hq], by rw [hh1]; rfl, by rw [hh1]; rfl⟩
    simp (disch := first | exact znw_u | exact znw_i) only [zc_210, zs_210_0, zs_210_1, zs_210_4, zs_210_5, zs_210_5n, zs_210_6, zs_210_7, zs_210_10, zs_210_10n, zs_210_11, zs_210_12, zs_210_13, zs_210_16, zs_210_16n, zs_210_17, zs_210_17n, zs_210_18, zs_210_21, zs_210_24, zs_210_24n, ev, zaln_k (show 20 ≤ 24 by omega), hl, if_neg c1, e211, zbk_v, zts_s, ↓reduceIte, List.cons_append, List.nil_append]
theorem zBl_new (hb : zBl h r v B o) {h' : zH} (h1 : ∀ q, q < h.2.1 → h'.1 q = h.1 q) (h2 : h.2.1 ≤ h'.2.1) : zBl h' r v B o := by
  obtain ⟨⟨u, e⟩, ev, ⟨hr, hv, hvr⟩, h5⟩ := hb
  exact ⟨⟨u, by rw [h1 r hr, e]⟩, by rw [h1 v hv, ev], ⟨by omega, by omega, hvr⟩, h5⟩
theorem s_209 (hb : zBl h r v B o) : zcall zP sv (d + 1) 209 [.ref r] h = some (.inl (some (.ref v)), h) := by
  obtain ⟨⟨u, e⟩, _⟩ := hb
  simp only [zc_209, zs_209_0, zs_209_0n, zs_209_1, zs_209_4, zs_209_4n, e, zrc_2, zf_2_0, zp_2_0, zp_2_0n, zf_2_1, zp_2_10, zp_2_11, zf_2_2, zp_2_20, zp_2_21, zf_2_3, zp_2_3]
/-- the builder's toString -/
theorem s_206 (hz : sv 0 = .int (nI 1)) (hb : zBl h r v B o) : ∃ h', zcall zP sv (d + 6) 206 [.ref r] h = some (.inl (some (.ref h.2.1)), h') ∧ h'.1 h.2.1 = (13, [.ref (h.2.1 + 1), .int 0, .int 0, .int 0]) ∧ h'.1 (h.2.1 + 1) = (24, o.map Value.int) ∧ (∀ q, q < h.2.1 → h'.1 q = h.1 q) ∧ h'.2.1 = h.2.1 + 2 ∧ h'.2.2 = h.2.2 + (4 + o.length) := by
  obtain ⟨h1, hh1⟩ : ∃ h1, h1 = znew h (13, [.null, .int 0, .int 0, .int 0]) 4 := ⟨_, rfl⟩
  have l1 : ∀ q, q < h.2.1 → h1.1 q = h.1 q := fun q hq => by rw [hh1, zext_of, zext_lo hq]
  have g1 : h1.1 h.2.1 = (13, [.null, .int 0, .int 0, .int 0]) := by rw [hh1, zext_of, zext_0]
  have z1 : h1.2.1 = h.2.1 + 1 ∧ h1.2.2 = h.2.2 + 4 := by rw [hh1]; exact ⟨rfl, rfl⟩
  have hb1 := zBl_new hb l1 (by omega)
  have e209 : zcall zP sv (d + 3) 209 [.ref r] h1 = _ := s_209 (d := d + 2) hb1
  have e13 : zcall zP sv (d + 3) 13 [.ref r] h1 = _ := d_13 (d := d + 1) hb1
  have e8 : zcall zP sv (d + 3) 8 [.ref r] h1 = _ := d_8 (d := d + 2) hz hb1
  have rc1 : ∀ X : zR, zrc (h1.1 r) 2 X = X := fun X => zBl_rc hb1 X
  obtain ⟨⟨_, _⟩, _, ⟨hr, hv, _⟩, _⟩ := id hb
  obtain ⟨h2, hh2⟩ : ∃ h2, h2 = zup h1 h.2.1 (13, [.null, .int 0, .int 0, .int 0]) := ⟨_, rfl⟩
  have g2 : h2.1 h.2.1 = (13, [.null, .int 0, .int 0, .int 0]) := by rw [hh2, zup_at]
  have hb2 : zBl h2 r v B o := zBl_new hb (fun q hq => by rw [hh2, zup_ne (by omega), l1 q hq]) (by rw [hh2]; show h.2.1 ≤ h1.2.1; omega)
  obtain ⟨h3, e210, t1, t2, t3, t4⟩ := s_210 (sv := sv) (d := d) hb2
  have z2 : h2.2.1 = h.2.1 + 1 ∧ h2.2.2 = h.2.2 + 4 := by rw [hh2]; exact z1
  rw [z2.1] at t1 t3 e210
  have g3 : h3.1 h.2.1 = (13, [.null, .int 0, .int 0, .int 0]) := by rw [t2 _ (by omega), g2]
  have e208 : zcall zP sv (d + 4) 208 [.ref h.2.1, .ref r, .null] h1 = some (.inl none, zup h3 h.2.1 (13, [.ref (h.2.1 + 1), .int 0, .int 0, .int 0])) := by
    simp (disch := first | exact znw_u | exact znw_i) only [zc_208n, zs_208_0, zs_208_0n, zs_208_1, zs_208_4, zs_208_4n, zs_208_5, zs_208_8, zs_208_8n, zs_208_9, zs_208_9n, zs_208_10, zs_208_13, zs_208_15, zs_208_15n, zs_208_16, zs_208_19, zs_208_22, zs_208_22n, zs_208_23, zs_208_24, zs_208_27, zs_208_27n, zs_208_28, zs_208_28n, zs_208_29, zs_208_30, zs_208_32, zs_208_35, zs_208_35n, zs_208_38, zs_208_41, zs_208_44, zs_208_47, zs_208_47n, zs_208_48, zs_208_51, zs_208_54, zs_208_54n, zs_208_55, zs_208_55n, zs_208_56, zs_208_57, zs_208_79, zs_208_79n, zs_208_80, zs_208_81, zs_208_84, zs_208_84n, zs_208_85, zs_208_85n, zs_208_86, zs_208_87, zs_208_89, zs_208_90, zs_208_91, zs_208_94, zs_208_94n, zs_208_97, rc1, e209, e13, e8, nI_1e0, g1, zrc_13, zf_13_0, zp_13_0, zp_13_0n, zf_13_1, zp_13_10, zp_13_11, zf_13_2, zp_13_2, zf_13_3, zp_13_30, zp_13_31, ← hh2, e210, g3, zbk_v, zts_s, zts_n, ↓reduceIte, List.cons_append, List.nil_append]
  have rcs : ∀ X : zR, zrc (h1.1 h.2.1) 13 X = X := fun X => by rw [g1]; exact zrc_k
  have e207 : zcall zP sv (d + 5) 207 [.ref h.2.1, .ref r] h1 = some (.inl none, zup h3 h.2.1 (13, [.ref (h.2.1 + 1), .int 0, .int 0, .int 0])) := by
    simp (disch := first | exact znw_u | exact znw_i) only [zc_207, zs_207_0, zs_207_0n, zs_207_1, zs_207_1n, zs_207_2, zs_207_3, zs_207_6, rcs, e208, zbk_v, zts_n, List.cons_append, List.nil_append]
  refine ⟨zup h3 h.2.1 (13, [.ref (h.2.1 + 1), .int 0, .int 0, .int 0]), ?_, zup_at, by rw [zup_ne (by omega), t1], fun q hq => by rw [zup_ne (by omega), t2 q (by omega), hh2, zup_ne (by omega), l1 q hq], t3, by show h3.2.2 = _; rw [t4, z2.2]; omega⟩
  simp (disch := first | exact znw_u | exact znw_i) only [zc_206, zs_206_0, zs_206_3, zs_206_4, zs_206_4n, zs_206_5, zs_206_8, zs_206_8n, ← hh1, rcs, e207, zbk_v, zts_n, List.cons_append, List.nil_append]
/-- a new builder -/
theorem c_sbn (hz : sv 0 = .int (nI 1)) : zcall zP sv (d + 2) 0 [.ref h.2.1] (znew h (2, [.null, .int 0, .int 0, .int 0]) 4) = some (.inl none, zext h [(2, [.ref (h.2.1 + 1), .int 0, .int 0, .int 0]), (24, List.replicate 16 (.int 0))] 20) := by
  rw [zext_of, c_SB (r := h.2.1) zext_0 (by rw [zext_sz]; show h.2.1 < h.2.1 + 1; omega) hz]
  simp only [zup_0, zext_ext, zext_sz, List.length_cons, List.length_nil, Nat.reduceAdd, Nat.zero_add, List.nil_append, List.cons_append]
theorem zBl_n {h1 : zH} (e : h1 = zext h [(2, [.ref (h.2.1 + 1), .int 0, .int 0, .int 0]), (24, List.replicate 16 (.int 0))] 20) : zBl h1 h.2.1 (h.2.1 + 1) (List.replicate 16 0) [] := by
  subst e
  refine ⟨⟨0, by rw [zext_0, List.length_nil, nI_0]⟩, by rw [zext_1 (k := 1) rfl, List.map_replicate], ⟨by rw [zext_sz]; show _ < _ + 2; omega, by rw [zext_sz]; show _ < _ + 2; omega, by omega⟩, Nat.zero_le _, rfl, by rw [List.length_replicate]; decide, fun x hx => by rw [List.eq_of_mem_replicate hx]; decide⟩
end ZST

section ZTX
variable {cs : List Int32}
/-- in parentheses, unless a letter or a number -/
def yNl (b : List Int32) : Prop := ¬ (b.length = 1 ∨ (b.length = 2 ∧ ¬ b.getD 0 0 < nI 48 ∧ ¬ nI 57 < b.getD 0 0))
def yIn (b : List Int32) : List Int32 := if b.length = 1 ∨ (b.length = 2 ∧ ¬ b.getD 0 0 < nI 48 ∧ ¬ nI 57 < b.getD 0 0) then b else [nI 40] ++ (b ++ [nI 41])
def yLf (b : List Int32) (t : yT) : Prop := (∃ k, k < 6 ∧ b = [nI (97 + k)] ∧ t = ymk (nI 118) (nI (97 + k)) .leaf .leaf) ∨ (∃ v, v < 100 ∧ b = yits (nI v) ∧ t = ycn (nI v))
/-- the text of a term: not deeper than n -/
def yTx : Nat → List Int32 → yT → Prop
  | 0, b, t => yLf b t
  | n + 1, b, t => yLf b t ∨ (∃ b1 t1, yTx n b1 t1 ∧ b = [nI 45] ++ yIn b1 ∧ t = ymk (nI 110) 0 t1 .leaf) ∨ (∃ k b1 t1 b2 t2, (k = 42 ∨ k = 43 ∨ k = 45) ∧ yTx n b1 t1 ∧ yTx n b2 t2 ∧ b = yIn b1 ++ ([nI k] ++ yIn b2) ∧ t = ymk (nI k) 0 t1 t2)
def yAt (cs : List Int32) (p : Nat) (b : List Int32) : Prop := ∀ (i : Nat) (x : Int32), b[i]? = some x → ycat cs (p + i) = x
theorem yAt_l {p : Nat} {b c : List Int32} (H : yAt cs p (b ++ c)) : yAt cs p b := fun i x hx => H i x (by rw [List.getElem?_append_left (List.getElem?_eq_some_iff.mp hx).1]; exact hx)
theorem yAt_r {p : Nat} {b c : List Int32} (H : yAt cs p (b ++ c)) : yAt cs (p + b.length) c := fun i x hx => by
  have e := H (b.length + i) x (by rw [List.getElem?_append_right (by omega), Nat.add_sub_cancel_left]; exact hx)
  rw [← Nat.add_assoc] at e
  exact e
theorem yitd : ∀ v, v < 100 → yits (nI v) = if v < 10 then [nI (48 + v)] else [nI (48 + v / 10), nI (48 + v % 10)] := by decide +kernel
theorem ytx_l : ∀ k, k < 6 → ¬ nI (97 + k) = nI 40 ∧ ¬ nI (97 + k) = nI 45 ∧ ylet (nI (97 + k)) = true := by decide +kernel
theorem ytx_d : ∀ k, k < 10 → ¬ nI (48 + k) = nI 40 ∧ ¬ nI (48 + k) = nI 45 ∧ ylet (nI (48 + k)) = false ∧ yisd (nI (48 + k)) = true ∧ nI (48 + k) - nI 48 = nI k ∧ ¬ nI (48 + k) < nI 48 ∧ ¬ nI 57 < nI (48 + k) := by decide +kernel
theorem ytx_2 : ∀ v, v < 100 → nI 10 * (nI (48 + v / 10) - nI 48) + (nI (48 + v % 10) - nI 48) = nI v := by decide +kernel
theorem yLf_in {b : List Int32} {t : yT} (h : yLf b t) : yIn b = b := by
  unfold yIn
  rcases h with ⟨k, hk, rfl, _⟩ | ⟨v, hv, rfl, _⟩
  · exact if_pos (Or.inl rfl)
  · rw [yitd v hv]
    by_cases c : v < 10
    · rw [if_pos c]
      exact if_pos (Or.inl rfl)
    · rw [if_neg c, if_pos (Or.inr ⟨rfl, (ytx_d (v / 10) (by omega)).2.2.2.2.2⟩)]
theorem yIn_nl {b : List Int32} (h : yNl b) : yIn b = [nI 40] ++ (b ++ [nI 41]) := if_neg h
theorem yIn_le (b : List Int32) : (yIn b).length ≤ b.length + 2 ∧ b.length ≤ (yIn b).length := by
  unfold yIn
  split
  · exact ⟨by omega, Nat.le_refl _⟩
  · rw [List.length_append, List.length_append]
    show 1 + (b.length + 1) ≤ b.length + 2 ∧ b.length ≤ 1 + (b.length + 1)
    omega
theorem yIn_mem {b : List Int32} {x : Int32} (h : x ∈ yIn b) : x ∈ b ∨ x = nI 40 ∨ x = nI 41 := by
  unfold yIn at h
  split at h
  · exact Or.inl h
  · rw [List.mem_append, List.mem_append] at h
    rcases h with h | h | h
    · exact Or.inr (Or.inl (List.mem_singleton.mp h))
    · exact Or.inl h
    · exact Or.inr (Or.inr (List.mem_singleton.mp h))
theorem yas7_i {k : Nat} (hk : k < 128) : yas7 (nI k) := ⟨k, hk, rfl⟩
theorem yIn_as {b : List Int32} (h : ∀ x, x ∈ b → yas7 x) : ∀ x, x ∈ yIn b → yas7 x := fun x hx => by
  rcases yIn_mem hx with q | q | q
  · exact h x q
  · rw [q]; exact yas7_i (by decide)
  · rw [q]; exact yas7_i (by decide)
theorem yLf_p {b : List Int32} {t : yT} (h : yLf b t) : 1 ≤ b.length ∧ b.length ≤ 2 ∧ (∀ x, x ∈ b → yas7 x) ∧ ysz t = 1 ∧ ydp t = 1 := by
  rcases h with ⟨k, hk, rfl, rfl⟩ | ⟨v, hv, rfl, rfl⟩
  · exact ⟨Nat.le_refl _, by show 1 ≤ 2; decide, fun x hx => by rw [List.mem_singleton.mp hx]; exact yas7_i (by omega), rfl, rfl⟩
  · rw [yitd v hv]
    by_cases c : v < 10
    · rw [if_pos c]
      exact ⟨Nat.le_refl _, by show 1 ≤ 2; decide, fun x hx => by rw [List.mem_singleton.mp hx]; exact yas7_i (by omega), rfl, rfl⟩
    · rw [if_neg c]
      refine ⟨by show 1 ≤ 2; decide, Nat.le_refl _, fun x hx => ?_, rfl, rfl⟩
      rw [List.mem_cons, List.mem_singleton] at hx
      rcases hx with rfl | rfl
      · exact yas7_i (by omega)
      · exact yas7_i (by omega)
theorem yTx_p : ∀ n b t, yTx n b t → 1 ≤ b.length ∧ b.length + 5 ≤ 7 * 2 ^ n ∧ (∀ x, x ∈ b → yas7 x) ∧ 1 ≤ ysz t ∧ ysz t + 1 ≤ 2 ^ (n + 1) ∧ ydp t ≤ n + 1
  | 0, b, t, h => by
    obtain ⟨h1, h2, h3, h4, h5⟩ := yLf_p h
    exact ⟨h1, by show b.length + 5 ≤ 7; omega, h3, by omega, by rw [h4]; decide, by omega⟩
  | n + 1, b, t, h => by
    have ih := yTx_p n
    have p2 : 2 ^ (n + 1) = 2 * 2 ^ n := by rw [Nat.pow_succ, Nat.mul_comm]
    have p3 : 2 ^ (n + 1 + 1) = 2 * 2 ^ (n + 1) := by rw [Nat.pow_succ, Nat.mul_comm]
    have p1 : 1 ≤ 2 ^ n := Nat.one_le_two_pow
    rcases h with h | ⟨b1, t1, g, rfl, rfl⟩ | ⟨k, b1, t1, b2, t2, hk, g1, g2, rfl, rfl⟩
    · obtain ⟨h1, h2, h3, h4, h5⟩ := yLf_p h
      exact ⟨h1, by omega, h3, by omega, by omega, by omega⟩
    · obtain ⟨q1, q2, q3, q4, q5, q6⟩ := ih b1 t1 g
      have l1 := yIn_le b1
      have e : ([nI 45] ++ yIn b1).length = 1 + (yIn b1).length := List.length_append
      refine ⟨by omega, by omega, fun x hx => ?_, ?_, ?_, ?_⟩
      · rw [List.mem_append, List.mem_singleton] at hx
        rcases hx with rfl | hx
        · exact yas7_i (by decide)
        · exact yIn_as q3 x hx
      · show 1 ≤ ysz t1 + 0 + 1; omega
      · show ysz t1 + 0 + 1 + 1 ≤ _; omega
      · show max (ydp t1) 0 + 1 ≤ _; omega
    · obtain ⟨q1, q2, q3, q4, q5, q6⟩ := ih b1 t1 g1
      obtain ⟨r1, r2, r3, r4, r5, r6⟩ := ih b2 t2 g2
      have l1 := yIn_le b1
      have l2 := yIn_le b2
      have e : (yIn b1 ++ ([nI k] ++ yIn b2)).length = (yIn b1).length + (1 + (yIn b2).length) := by rw [List.length_append, List.length_append]; rfl
      refine ⟨by omega, by omega, fun x hx => ?_, ?_, ?_, ?_⟩
      · rw [List.mem_append, List.mem_append, List.mem_singleton] at hx
        rcases hx with hx | rfl | hx
        · exact yIn_as q3 x hx
        · exact yas7_i (by omega)
        · exact yIn_as r3 x hx
      · show 1 ≤ ysz t1 + ysz t2 + 1; omega
      · show ysz t1 + ysz t2 + 1 + 1 ≤ _; omega
      · show max (ydp t1) (ydp t2) + 1 ≤ _; omega
theorem yTx_or : ∀ n b t, yTx n b t → yLf b t ∨ yNl b
  | 0, b, t, h => Or.inl h
  | n + 1, b, t, h => by
    rcases h with h | ⟨b1, t1, g, rfl, rfl⟩ | ⟨k, b1, t1, b2, t2, hk, g1, g2, rfl, rfl⟩
    · exact Or.inl h
    · have q1 := (yTx_p n b1 t1 g).1
      have l1 := yIn_le b1
      have e : ([nI 45] ++ yIn b1).length = 1 + (yIn b1).length := List.length_append
      right
      intro q
      rcases q with q | ⟨_, q, _⟩
      · omega
      · exact q (by show nI 45 < nI 48; decide +kernel)
    · have q1 := (yTx_p n b1 t1 g1).1
      have q2 := (yTx_p n b2 t2 g2).1
      have l1 := yIn_le b1
      have l2 := yIn_le b2
      have e : (yIn b1 ++ ([nI k] ++ yIn b2)).length = (yIn b1).length + (1 + (yIn b2).length) := by rw [List.length_append, List.length_append]; rfl
      right
      intro q
      rcases q with q | ⟨q, _⟩
      · omega
      · omega
/-- it doesn't begin with a negation -/
theorem yIn_hd {n : Nat} {b : List Int32} {t : yT} (h : yTx n b t) : ∃ x, (yIn b)[0]? = some x ∧ ¬ x = nI 45 := by
  rcases yTx_or n b t h with hl | hn
  · rw [yLf_in hl]
    rcases hl with ⟨k, hk, rfl, _⟩ | ⟨v, hv, rfl, _⟩
    · exact ⟨_, rfl, (ytx_l k hk).2.1⟩
    · rw [yitd v hv]
      by_cases c : v < 10
      · rw [if_pos c]
        exact ⟨_, rfl, (ytx_d v c).2.1⟩
      · rw [if_neg c]
        exact ⟨_, rfl, (ytx_d (v / 10) (by omega)).2.1⟩
  · rw [yIn_nl hn]
    exact ⟨_, rfl, by decide +kernel⟩
theorem yLf_pu {b : List Int32} {t : yT} {p op f : Nat} (h : yLf b t) (ha : yAt cs p b) (hd : yisd (ycat cs (p + b.length)) = false) : ypu cs f op p = (some t, p + b.length) := by
  unfold ypu
  rcases h with ⟨k, hk, rfl, rfl⟩ | ⟨v, hv, rfl, rfl⟩
  · have e : ycat cs p = nI (97 + k) := ha 0 _ rfl
    rw [e, if_neg (fun q => (ytx_l k hk).1 q.1), if_pos (ytx_l k hk).2.2]
    rfl
  · rw [yitd v hv] at ha hd ⊢
    by_cases c : v < 10
    · rw [if_pos c] at ha hd ⊢
      have e : ycat cs p = nI (48 + v) := ha 0 _ rfl
      obtain ⟨d1, d2, d3, d4, d5, _⟩ := ytx_d v c
      have hd' : yisd (ycat cs (p + 1)) = false := hd
      unfold ynum2
      rw [e, if_neg (fun q => d1 q.1), if_neg (fun q => by rw [d3] at q; cases q), if_pos d4, if_neg (fun q => by rw [hd'] at q; cases q), d5]
      rfl
    · rw [if_neg c] at ha hd ⊢
      have e : ycat cs p = nI (48 + v / 10) := ha 0 _ rfl
      have e1 : ycat cs (p + 1) = nI (48 + v % 10) := ha 1 _ rfl
      obtain ⟨d1, d2, d3, d4, d5, _⟩ := ytx_d (v / 10) (by omega)
      have d6 := (ytx_d (v % 10) (by omega)).2.2.2.1
      unfold ynum2
      rw [e, if_neg (fun q => d1 q.1), if_neg (fun q => by rw [d3] at q; cases q), if_pos d4, e1, if_pos d6, ytx_2 v hv]
      rfl
/-- what ends a sum -/
def yend (c : Int32) : Prop := yisd c = false ∧ ¬ c = nI 42 ∧ ¬ (c = nI 43 ∨ c = nI 45)
theorem yend_41 : yend (nI 41) := by unfold yend; decide +kernel
theorem yend_32 : yend (nI 32) := by unfold yend; decide +kernel
def yGR (cs : List Int32) (n : Nat) : Prop := ∀ (b : List Int32) (t : yT) (p op f : Nat), yTx n b t → op + n ≤ 5 → 5 * n + 5 ≤ f → yAt cs p (yIn b) → yisd (ycat cs (p + (yIn b).length)) = false → ypu cs f op p = (some t, p + (yIn b).length)
def yGQ (cs : List Int32) (n : Nat) : Prop := ∀ (b : List Int32) (t : yT) (p op f : Nat), yTx n b t → op + n ≤ 6 → 5 * n + 5 ≤ f → yAt cs p b → yend (ycat cs (p + b.length)) → ypa cs f 0 none op p = (some t, p + b.length)
theorem yG_R {n : Nat} (hQ : yGQ cs n) : yGR cs n := by
  intro b t p op f hb ho hf ha hd
  rcases yTx_or n b t hb with hl | hn
  · rw [yLf_in hl] at ha hd ⊢
    exact yLf_pu hl ha hd
  · rw [yIn_nl hn] at ha hd ⊢
    have c0 : ycat cs p = nI 40 := ha 0 _ rfl
    have a1 : yAt cs (p + 1) (b ++ [nI 41]) := yAt_r ha
    have c1 : ycat cs (p + 1 + b.length) = nI 41 := yAt_r a1 0 _ rfl
    have e := hQ b t (p + 1) (op + 1) f hb (by omega) hf (yAt_l a1) (by rw [c1]; exact yend_41)
    have hl : p + ([nI 40] ++ (b ++ [nI 41])).length = p + 1 + b.length + 1 := by
      rw [List.length_append, List.length_append]
      show p + (1 + (b.length + 1)) = _
      omega
    unfold ypu
    rw [if_pos ⟨c0, by omega⟩, e, hl]
    show (if (some t : Option yT).isSome = true ∧ ycat cs (p + 1 + b.length) = nI 41 then ((some t : Option yT), p + 1 + b.length + 1) else _) = _
    rw [if_pos ⟨rfl, c1⟩]
theorem yng_0 {p : Nat} (h : ¬ ycat cs p = nI 45) : yng cs p 6 = 0 := if_neg h
theorem yng_1 {p : Nat} (h : ycat cs p = nI 45) (h1 : ¬ ycat cs (p + 1) = nI 45) : yng cs p 6 = 1 := by
  show (if ycat cs p = nI 45 then (if ycat cs (p + 1) = nI 45 then yng cs (p + 1 + 1) 4 + 1 else 0) + 1 else 0) = 1
  rw [if_pos h, if_neg h1]
theorem yG_4 {p q op f : Nat} {t : yT} (hn : ¬ ycat cs p = nI 45) (hu : ypu cs f op p = (some t, q)) : ypa cs (f + 1) 4 none op p = (some t, q) := by
  rw [ypa_4, yng_0 hn, Nat.add_zero, hu]
  rfl
theorem yG_4n {p q op f : Nat} {t : yT} (hn : ycat cs p = nI 45) (h1 : ¬ ycat cs (p + 1) = nI 45) (hu : ypu cs f op (p + 1) = (some t, q)) : ypa cs (f + 1) 4 none op p = (some (ymk (nI 110) 0 t .leaf), q) := by
  rw [ypa_4, yng_1 hn h1, hu]
  rfl
theorem yG_top {p q op f : Nat} {t : yT} (h4 : ypa cs (f + 2) 4 none op p = (some t, q)) (he : yend (ycat cs q)) : ypa cs (f + 4) 0 none op p = (some t, q) := by
  rw [ypa_0, ypa_2, h4]
  show ypa cs (f + 3) 1 (ypa cs (f + 2) 3 (some t) op q).1 op (ypa cs (f + 2) 3 (some t) op q).2 = _
  rw [ypa_3s, if_neg he.2.1]
  show ypa cs (f + 3) 1 (some t) op q = _
  rw [ypa_1s, if_neg he.2.2]
theorem yG_leaf {b : List Int32} {t : yT} {p op f : Nat} (h : yLf b t) (ha : yAt cs p b) (he : yend (ycat cs (p + b.length))) : ypa cs (f + 4) 0 none op p = (some t, p + b.length) := by
  have hn : ¬ ycat cs p = nI 45 := by
    obtain ⟨x, h1, h2⟩ := yIn_hd (n := 0) h
    rw [yLf_in h] at h1
    have e : ycat cs p = x := ha 0 _ h1
    rw [e]
    exact h2
  exact yG_top (yG_4 hn (yLf_pu h ha he.1)) he
theorem yG_hd {n p : Nat} {b : List Int32} {t : yT} (h : yTx n b t) (ha : yAt cs p (yIn b)) : ¬ ycat cs p = nI 45 := by
  obtain ⟨x, h1, h2⟩ := yIn_hd h
  have e : ycat cs p = x := ha 0 _ h1
  rw [e]
  exact h2
theorem yop_d : ∀ k, k = 42 ∨ k = 43 ∨ k = 45 → yisd (nI k) = false := by
  intro k hk
  rcases hk with rfl | rfl | rfl
  · decide +kernel
  · decide +kernel
  · decide +kernel
theorem yG_Q : ∀ n, yGQ cs n
  | 0 => fun b t p op f hb ho hf ha he => by
    obtain ⟨g, rfl⟩ : ∃ g, f = g + 4 := ⟨f - 4, by omega⟩
    exact yG_leaf hb ha he
  | n + 1 => fun b t p op f hb ho hf ha he => by
    have R := yG_R (yG_Q n)
    obtain ⟨g, rfl⟩ : ∃ g, f = g + 5 := ⟨f - 5, by omega⟩
    rcases hb with hb | ⟨b1, t1, h1, rfl, rfl⟩ | ⟨k, b1, t1, b2, t2, hk, h1, h2, rfl, rfl⟩
    · exact yG_leaf (f := g + 1) hb ha he
    · have hl : p + ([nI 45] ++ yIn b1).length = p + 1 + (yIn b1).length := by
        rw [List.length_append]
        show p + (1 + (yIn b1).length) = _
        omega
      rw [hl] at he ⊢
      have c0 : ycat cs p = nI 45 := ha 0 _ rfl
      have a1 : yAt cs (p + 1) (yIn b1) := yAt_r ha
      exact yG_top (f := g + 1) (yG_4n c0 (yG_hd h1 a1) (R b1 t1 (p + 1) op (g + 2) h1 (by omega) (by omega) a1 he.1)) he
    · have hl : p + (yIn b1 ++ ([nI k] ++ yIn b2)).length = p + (yIn b1).length + 1 + (yIn b2).length := by
        rw [List.length_append, List.length_append]
        show p + ((yIn b1).length + (1 + (yIn b2).length)) = _
        omega
      rw [hl] at he ⊢
      have a1 : yAt cs p (yIn b1) := yAt_l ha
      have a2 : yAt cs (p + (yIn b1).length) ([nI k] ++ yIn b2) := yAt_r ha
      have c0 : ycat cs (p + (yIn b1).length) = nI k := a2 0 _ rfl
      have a3 : yAt cs (p + (yIn b1).length + 1) (yIn b2) := yAt_r a2
      have u1 : ypa cs (g + 3) 4 none op p = (some t1, p + (yIn b1).length) := yG_4 (yG_hd h1 a1) (R b1 t1 p op (g + 2) h1 (by omega) (by omega) a1 (by rw [c0]; exact yop_d k hk))
      have u2 : ypa cs (g + 2) 4 none op (p + (yIn b1).length + 1) = (some t2, p + (yIn b1).length + 1 + (yIn b2).length) := yG_4 (yG_hd h2 a3) (R b2 t2 _ op (g + 1) h2 (by omega) (by omega) a3 he.1)
      rw [ypa_0, ypa_2, u1]
      show ypa cs (g + 4) 1 (ypa cs (g + 3) 3 (some t1) op (p + (yIn b1).length)).1 op (ypa cs (g + 3) 3 (some t1) op (p + (yIn b1).length)).2 = _
      by_cases c : k = 42
      · subst c
        rw [ypa_3s, if_pos c0, u2, c0]
        show ypa cs (g + 4) 1 (ypa cs (g + 2) 3 (some (ymk (nI 42) 0 t1 t2)) op (p + (yIn b1).length + 1 + (yIn b2).length)).1 op (ypa cs (g + 2) 3 (some (ymk (nI 42) 0 t1 t2)) op (p + (yIn b1).length + 1 + (yIn b2).length)).2 = _
        rw [ypa_3s, if_neg he.2.1]
        show ypa cs (g + 4) 1 (some (ymk (nI 42) 0 t1 t2)) op (p + (yIn b1).length + 1 + (yIn b2).length) = _
        rw [ypa_1s, if_neg he.2.2]
      · have n42 : ¬ ycat cs (p + (yIn b1).length) = nI 42 := by
          rw [c0]
          rcases hk with rfl | rfl | rfl
          · exact absurd rfl c
          · decide +kernel
          · decide +kernel
        have y43 : ycat cs (p + (yIn b1).length) = nI 43 ∨ ycat cs (p + (yIn b1).length) = nI 45 := by
          rw [c0]
          rcases hk with rfl | rfl | rfl
          · exact absurd rfl c
          · exact Or.inl rfl
          · exact Or.inr rfl
        rw [ypa_3s, if_neg n42]
        show ypa cs (g + 4) 1 (some t1) op (p + (yIn b1).length) = _
        rw [ypa_1s, if_pos y43, ypa_2, u2]
        show ypa cs (g + 3) 1 ((ypa cs (g + 2) 3 (some t2) op (p + (yIn b1).length + 1 + (yIn b2).length)).1.map (fun u => ymk (ycat cs (p + (yIn b1).length)) 0 t1 u)) op (ypa cs (g + 2) 3 (some t2) op (p + (yIn b1).length + 1 + (yIn b2).length)).2 = _
        rw [ypa_3s, if_neg he.2.1, c0]
        show ypa cs (g + 3) 1 (some (ymk (nI k) 0 t1 t2)) op (p + (yIn b1).length + 1 + (yIn b2).length) = _
        rw [ypa_1s, if_neg he.2.2]
theorem yTx_add {n : Nat} {b : List Int32} {t : yT} (hn : n ≤ 6) (h : yTx n b t) : yadd b = (some t, b.length) := by
  have ha : yAt b 0 b := fun i x hx => by
    unfold ycat
    rw [Nat.zero_add, List.getD_eq_getElem?_getD, hx]
    rfl
  have e := yG_Q n b t 0 0 4000 h (by omega) (by omega) ha (by rw [Nat.zero_add, ycat_ge (Nat.le_refl _)]; exact yend_32)
  rw [Nat.zero_add] at e
  unfold yadd
  rw [e]
  show ((if b.length = b.length then some t else none, b.length) : Option yT × Nat) = _
  rw [if_pos rfl]
end ZTX

section ZTM
variable {sv : Nat → Value} {d : Nat} {h : zH}
/-- cells are only made -/
def zns (N K : Nat) (h h' : zH) : Prop := (∀ q, q < h.2.1 → h'.1 q = h.1 q) ∧ h.2.1 ≤ h'.2.1 ∧ h'.2.1 ≤ h.2.1 + N ∧ h'.2.2 ≤ h.2.2 + K
theorem zns_rfl : zns 0 0 h h := ⟨fun _ _ => rfl, Nat.le_refl _, Nat.le_refl _, Nat.le_refl _⟩
theorem zns_tr {N K N' K' : Nat} {h1 h2 : zH} (a : zns N K h h1) (b : zns N' K' h1 h2) : zns (N + N') (K + K') h h2 := ⟨fun q hq => (b.1 q (Nat.lt_of_lt_of_le hq a.2.1)).trans (a.1 q hq), Nat.le_trans a.2.1 b.2.1, by have := a.2.2.1; have := b.2.2.1; omega, by have := a.2.2.2; have := b.2.2.2; omega⟩
theorem zns_mono {N K N' K' : Nat} {h1 : zH} (a : zns N K h h1) (h1' : N ≤ N') (h2' : K ≤ K') : zns N' K' h h1 := ⟨a.1, a.2.1, by have := a.2.2.1; omega, by have := a.2.2.2; omega⟩
theorem zns_fx {N K lo hi : Nat} {h1 : zH} (a : zns N K h h1) : zfx lo hi N K h h1 := ⟨fun q hq _ => a.1 q hq, a.2⟩
/-- the law's constant texts -/
def zKs (sv : Nat → Value) (h : zH) : Prop := ∀ i, i < 11 → ∃ s a : Nat, sv (4 + i) = .ref s ∧ h.1 s = (19, [.ref a, .int 0]) ∧ h.1 a = (27, (zbyt.getD i []).map Value.int) ∧ s < h.2.1 ∧ a < h.2.1
theorem yas7_of {x : Int32} (h0 : ¬ x < 0) (h1 : x < nI 128) : yas7 x := by
  obtain ⟨j, hj, rfl⟩ := nI_of h0
  by_cases c : j < 128
  · exact ⟨j, c, rfl⟩
  · exact absurd h1 (nI_nlt (by omega) hj)
theorem zbyt_d : ∀ i, i < 11 → (zbyt.getD i []).length ≤ 60 ∧ (zbyt.getD i []).all (fun x => decide (¬ x < 0) && decide (x < nI 128)) = true := by decide +kernel
theorem zbyt_ok {i : Nat} (hi : i < 11) : (zbyt.getD i []).length ≤ 60 ∧ ∀ x, x ∈ zbyt.getD i [] → yas7 x := by
  obtain ⟨h1, h2⟩ := zbyt_d i hi
  refine ⟨h1, fun x hx => ?_⟩
  have e := List.all_eq_true.mp h2 x hx
  rw [Bool.and_eq_true] at e
  exact yas7_of (of_decide_eq_true e.1) (of_decide_eq_true e.2)
theorem zKs_at {i : Nat} (hK : zKs sv h) (hi : i < 11) : ∃ s a : Nat, sv (4 + i) = .ref s ∧ zStr h s a (zbyt.getD i []) ∧ (h.1 a).1 = 27 := by
  obtain ⟨s, a, e1, e2, e3, e4, e5⟩ := hK i hi
  obtain ⟨g1, g2⟩ := zbyt_ok hi
  exact ⟨s, a, e1, ⟨Or.inr ⟨e2, e3⟩, e4, e5, g1, g2⟩, by rw [e3]⟩
theorem zKs_q {h' : zH} (hK : zKs sv h) (h1 : ∀ q, q < h.2.1 → h'.1 q = h.1 q) (h2 : h.2.1 ≤ h'.2.1) : zKs sv h' := fun i hi => by
  obtain ⟨s, a, e1, e2, e3, e4, e5⟩ := hK i hi
  exact ⟨s, a, e1, by rw [h1 s e4, e2], by rw [h1 a e5, e3], by omega, by omega⟩
theorem zDg_q {h' : zH} (hD : zDg sv h) (h1 : ∀ q, q < h.2.1 → h'.1 q = h.1 q) (h2 : h.2.1 ≤ h'.2.1) : zDg sv h' := by
  obtain ⟨a1, a2, s1, s2, g1, g2, b1, b2⟩ := hD
  exact ⟨a1, a2, s1, s2, by rw [h1 a1 b1, g1], by rw [h1 a2 b2, g2], by omega, by omega⟩
theorem zStr_ns {N K s a : Nat} {bs : List Int32} {h' : zH} (hs : zStr h s a bs) (hn : zns N K h h') : zStr h' s a bs := zStr_q hs (hn.1 s hs.2.1) (hn.1 a hs.2.2.1) hn.2.1
/-- a builder at work: what it holds, and how far the heap is from h0 -/
def zBd (N K : Nat) (h0 h : zH) (r v : Nat) (B o : List Int32) : Prop := zBl h r v B o ∧ (h0.2.1 ≤ r ∧ h0.2.1 ≤ v) ∧ (∀ q, q < h0.2.1 → h.1 q = h0.1 q) ∧ h0.2.1 ≤ h.2.1 ∧ h.2.1 + 14 ≤ h0.2.1 + N + B.length ∧ h.2.2 + 12 ≤ h0.2.2 + K + 2 * B.length
theorem zBd_0 {h1 : zH} (e : h1 = zext h [(2, [.ref (h.2.1 + 1), .int 0, .int 0, .int 0]), (24, List.replicate 16 (.int 0))] 20) : zBd 0 0 h h1 h.2.1 (h.2.1 + 1) (List.replicate 16 0) [] := by
  have e1 : h1.2.1 = h.2.1 + 2 := by rw [e]; rfl
  have e2 : h1.2.2 = h.2.2 + 20 := by rw [e]; rfl
  have e3 : (List.replicate 16 (0 : Int32)).length = 16 := List.length_replicate
  exact ⟨zBl_n e, ⟨Nat.le_refl _, by omega⟩, fun q hq => by rw [e, zext_lo hq], by omega, by rw [e3]; omega, by rw [e3]; omega⟩
theorem zBd_ad {N K r v : Nat} {h0 : zH} {B o p : List Int32} {res : zR} {val : Option Value} (b : zBd N K h0 h r v B o) (a : zAd r v B o h res val p) : ∃ (h' : zH) (v' : Nat) (B' : List Int32), res = some (.inl val, h') ∧ zBd N K h0 h' r v' B' (o ++ p) ∧ (∀ q, q < h.2.1 → q ≠ r → q ≠ v → h'.1 q = h.1 q) ∧ h.2.1 ≤ h'.2.1 := by
  obtain ⟨h', v', B', e, b', w, f⟩ := a
  obtain ⟨b1, ⟨b2, b3⟩, b4, b5, b6, b7⟩ := b
  have f2 := f.2.1
  have f3 := f.2.2.1
  have f4 := f.2.2.2.1
  exact ⟨h', v', B', e, ⟨b', ⟨b2, by omega⟩, fun q hq => by rw [f.1 q (by omega) (by omega) (by omega), b4 q hq], by omega, by omega, by omega⟩, f.1, f2⟩
theorem zBd_ns {N K N' K' r v : Nat} {h0 h' : zH} {B o : List Int32} (b : zBd N K h0 h r v B o) (a : zns N' K' h h') : zBd (N + N') (K + K') h0 h' r v B o := by
  obtain ⟨b1, b2, b4, b5, b6, b7⟩ := b
  have a2 := a.2.1
  have a3 := a.2.2.1
  have a4 := a.2.2.2
  exact ⟨zBl_new b1 a.1 a2, b2, fun q hq => by rw [a.1 q (by omega), b4 q hq], by omega, by omega, by omega⟩
theorem zBd_rc {N K r v : Nat} {h0 : zH} {B o : List Int32} (b : zBd N K h0 h r v B o) (X : zR) : zrc (h.1 r) 2 X = X := zBl_rc b.1 X
/-- a built text, made to a String -/
theorem zBd_to {N K r v : Nat} {h0 : zH} {B o : List Int32} (hz : sv 0 = .int (nI 1)) (b : zBd N K h0 h r v B o) (ho : o.length ≤ 60) (has : ∀ x, x ∈ o → yas7 x) : ∃ (h' : zH) (s a : Nat), zcall zP sv (d + 6) 206 [.ref r] h = some (.inl (some (.ref s)), h') ∧ zStr h' s a o ∧ (h0.2.1 ≤ s ∧ h0.2.1 ≤ a) ∧ zns (N + 1000) (K + 2100) h0 h' := by
  obtain ⟨h', e, g1, g2, g3, g4, g5⟩ := s_206 (sv := sv) (d := d) hz b.1
  obtain ⟨b1, ⟨b2, b3⟩, b4, b5, b6, b7⟩ := b
  have hL := b1.2.2.2.2.2.1
  refine ⟨h', h.2.1, h.2.1 + 1, e, ⟨Or.inl ⟨g1, g2⟩, by omega, by omega, ho, has⟩, ⟨by omega, by omega⟩, fun q hq => by rw [g3 q (by omega), b4 q hq], by omega, by omega, by omega⟩
theorem znew_at {kd n : Nat} {vs : List Value} : (znew h (kd, vs) n).1 h.2.1 = (kd, vs) := by rw [zext_of, zext_0]
/-- inside -/
theorem l_255 {s a : Nat} {bs : List Int32} (hz : sv 0 = .int (nI 1)) (h3 : zty 4 (sv 3) = true) (hK : zKs sv h) (hs : zStr h s a bs) (h1 : 1 ≤ bs.length) (h58 : bs.length ≤ 58) : ∃ (h' : zH) (s' a' : Nat), zcall zP sv (d + 7) 255 [.ref s] h = some (.inl (some (.ref s')), h') ∧ zStr h' s' a' (yIn bs) ∧ ((s' = s ∧ a' = a) ∨ (h.2.1 ≤ s' ∧ h.2.1 ≤ a')) ∧ zns 1000 2100 h h' := by
  have rcs := zStr_rc hs
  have e196 : zcall zP sv (d + 6) 196 [.ref s] h = _ := s_196 (d := d + 4) hz hs
  -- the builder
  have key : yNl bs → ∃ (h' : zH) (s' a' : Nat), zrun zP sv (zcall zP sv (d + 6)) 255 40 [.val (.ref s)] [] h = some (.inl (some (.ref s')), h') ∧ zStr h' s' a' (yIn bs) ∧ ((s' = s ∧ a' = a) ∨ (h.2.1 ≤ s' ∧ h.2.1 ≤ a')) ∧ zns 1000 2100 h h' := by
    intro hn
    obtain ⟨h1, hh1⟩ : ∃ h1, h1 = zext h [(2, [.ref (h.2.1 + 1), .int 0, .int 0, .int 0]), (24, List.replicate 16 (.int 0))] 20 := ⟨_, rfl⟩
    have e0 : zcall zP sv (d + 6) 0 [.ref h.2.1] (znew h (2, [.null, .int 0, .int 0, .int 0]) 4) = _ := c_sbn (d := d + 4) hz
    rw [← hh1] at e0
    have rn : ∀ X : zR, zrc ((znew h (2, [.null, .int 0, .int 0, .int 0]) 4).1 h.2.1) 2 X = X := fun X => by rw [znew_at]; exact zrc_k
    have B1 := zBd_0 hh1
    have n1 : zns 2 20 h h1 := ⟨B1.2.2.1, B1.2.2.2.1, by rw [hh1]; exact Nat.le_refl _, by rw [hh1]; exact Nat.le_refl _⟩
    have K1 := zKs_q hK n1.1 n1.2.1
    obtain ⟨c4, a4, k4, t4, u4⟩ := zKs_at K1 (i := 4) (by decide)
    have k4' : sv 8 = .ref c4 := k4
    have t4' : zStr h1 c4 a4 [nI 40] := t4
    have S1 := zStr_ns hs n1
    have ne1 : a4 ≠ h.2.1 + 1 := fun q => by
      have := (zBl_k B1.1).2
      rw [q, this] at u4
      exact absurd u4 (by decide)
    obtain ⟨h2, v2, b2, e2, B2, f2, m2⟩ := zBd_ad B1 (s_201 (d := d + 1) hz B1.1 t4' ne1 (by show 0 + 1 ≤ 450; omega))
    have hs2 : h.2.1 ≤ h2.2.1 := B2.2.2.2.1
    have S2 : zStr h2 s a bs := zStr_q hs (B2.2.2.1 s hs.2.1) (B2.2.2.1 a hs.2.2.1) hs2
    have av2 : a ≠ v2 := by have := B2.2.1.2; have := hs.2.2.1; omega
    obtain ⟨h3', v3, b3, e3, B3, f3, m3⟩ := zBd_ad B2 (s_201 (d := d + 1) hz B2.1 S2 av2 (by show 1 + bs.length ≤ 450; omega))
    have K3 := zKs_q hK B3.2.2.1 B3.2.2.2.1
    obtain ⟨c5, a5, k5, t5, u5⟩ := zKs_at K3 (i := 5) (by decide)
    have k5' : sv 9 = .ref c5 := k5
    have t5' : zStr h3' c5 a5 [nI 41] := t5
    have ne5 : a5 ≠ v3 := fun q => by
      have := (zBl_k B3.1).2
      rw [q, this] at u5
      exact absurd u5 (by decide)
    obtain ⟨h4, v4, b4, e4, B4, f4, m4⟩ := zBd_ad B3 (s_201 (d := d + 1) hz B3.1 t5' ne5 (by rw [List.length_append]; show 0 + 1 + bs.length + 1 ≤ 450; omega))
    have eo : [] ++ [nI 40] ++ bs ++ [nI 41] = yIn bs := by rw [yIn_nl hn, List.nil_append, List.append_assoc]
    rw [eo] at B4
    obtain ⟨h5, s5, a5', e5, S5, g5, n5⟩ := zBd_to (d := d) hz B4 (by have := (yIn_le bs).1; omega) (yIn_as hs.2.2.2.2)
    refine ⟨h5, s5, a5', ?_, S5, Or.inr g5, zns_mono n5 (by omega) (by omega)⟩
    have r1 := zBd_rc B1
    have r2 := zBd_rc B2
    have r3 := zBd_rc B3
    have r4 := zBd_rc B4
    simp (disch := first | exact znw_u | exact znw_i) only [zs_255_0, zs_255_0n, zs_255_1, zs_255_4, zs_255_5, zs_255_8, zs_255_8n, zs_255_9, zs_255_12, zs_255_13, zs_255_16, zs_255_16n, zs_255_17, zs_255_18, zs_255_21, zs_255_23, zs_255_26, zs_255_26n, zs_255_27, zs_255_28, zs_255_31, zs_255_33, zs_255_36, zs_255_36n, zs_255_37, zs_255_40, zs_255_43, zs_255_44, zs_255_47, zs_255_49, zs_255_52, zs_255_52n, zs_255_53, zs_255_56, zs_255_58, zs_255_61, zs_255_64, zs_255_64n, rn, e0, k4', r1, e2, r2, e3, k5', r3, e4, r4, e5, zbk_v, zts_s, zts_n, List.cons_append, List.nil_append]
  have hz1 : ∀ h' : zH, zns 0 0 h h → zns 1000 2100 h h := fun _ q => zns_mono q (by omega) (by omega)
  have same : yIn bs = bs → ∃ (h' : zH) (s' a' : Nat), (some (.inl (some (.ref s)), h) : zR) = some (.inl (some (.ref s')), h') ∧ zStr h' s' a' (yIn bs) ∧ ((s' = s ∧ a' = a) ∨ (h.2.1 ≤ s' ∧ h.2.1 ≤ a')) ∧ zns 1000 2100 h h' := fun q => ⟨h, s, a, rfl, by rw [q]; exact hs, Or.inl ⟨rfl, rfl⟩, hz1 h zns_rfl⟩
  by_cases c1 : bs.length = 1
  · have ci : nI bs.length = nI 1 := by rw [c1]
    have ei : yIn bs = bs := if_pos (Or.inl c1)
    obtain ⟨h', s', a', q1, q2⟩ := same ei
    refine ⟨h', s', a', ?_, q2⟩
    rw [← q1]
    simp (disch := first | exact znw_u | exact znw_i) only [zc_255, zs_255_0, zs_255_0n, zs_255_1, zs_255_4, zs_255_5, zs_255_8, zs_255_8n, zs_255_9, zs_255_12, zs_255_13, zs_255_16, zs_255_16n, zs_255_17, zs_255_18, zs_255_21, zs_255_23, zs_255_26, zs_255_26n, zs_255_27, zs_255_28, zs_255_31, zs_255_33, zs_255_36, zs_255_36n, zs_255_37, zs_255_40, zs_255_43, zs_255_44, zs_255_47, zs_255_49, zs_255_52, zs_255_52n, zs_255_53, zs_255_56, zs_255_58, zs_255_61, zs_255_64, zs_255_64n, rcs, e196, if_pos ci, zbk_v, zts_s, List.cons_append, List.nil_append]
  · have ci : ¬ nI bs.length = nI 1 := fun q => c1 ((nI_eq (by omega) (by decide)).mp q)
    by_cases c2 : bs.length = 2
    · have cj : nI bs.length = nI 2 := by rw [c2]
      have e199 : zcall zP sv (d + 6) 199 [.ref s, .int (nI 0)] h = _ := s_199 (d := d + 2) hz h3 hs (show 0 < bs.length by omega)
      rw [nI_0] at e199
      by_cases c3 : bs.getD 0 0 < nI 48
      · obtain ⟨h', s', a', q1, q2⟩ := key (fun q => q.elim c1 (fun q => q.2.1 c3))
        refine ⟨h', s', a', ?_, q2⟩
        rw [← q1]
        simp (disch := first | exact znw_u | exact znw_i) only [zc_255, zs_255_0, zs_255_1, zs_255_4, zs_255_5, zs_255_8, zs_255_9, zs_255_12, zs_255_13, zs_255_16, zs_255_17, zs_255_18, zs_255_21, zs_255_23, rcs, e196, if_neg ci, if_pos cj, e199, if_pos c3, zbk_v, zts_s, List.cons_append, List.nil_append]
      · by_cases c4 : nI 57 < bs.getD 0 0
        · obtain ⟨h', s', a', q1, q2⟩ := key (fun q => q.elim c1 (fun q => q.2.2 c4))
          refine ⟨h', s', a', ?_, q2⟩
          rw [← q1]
          simp (disch := first | exact znw_u | exact znw_i) only [zc_255, zs_255_0, zs_255_1, zs_255_4, zs_255_5, zs_255_8, zs_255_9, zs_255_12, zs_255_13, zs_255_16, zs_255_17, zs_255_18, zs_255_21, zs_255_23, zs_255_26, zs_255_27, zs_255_28, zs_255_31, zs_255_33, rcs, e196, if_neg ci, if_pos cj, e199, if_neg c3, if_pos c4, zbk_v, zts_s, List.cons_append, List.nil_append]
        · have ei : yIn bs = bs := if_pos (Or.inr ⟨c2, c3, c4⟩)
          obtain ⟨h', s', a', q1, q2⟩ := same ei
          refine ⟨h', s', a', ?_, q2⟩
          rw [← q1]
          simp (disch := first | exact znw_u | exact znw_i) only [zc_255, zs_255_0, zs_255_0n, zs_255_1, zs_255_4, zs_255_5, zs_255_8, zs_255_8n, zs_255_9, zs_255_12, zs_255_13, zs_255_16, zs_255_16n, zs_255_17, zs_255_18, zs_255_21, zs_255_23, zs_255_26, zs_255_26n, zs_255_27, zs_255_28, zs_255_31, zs_255_33, zs_255_36, zs_255_36n, zs_255_37, zs_255_40, zs_255_43, zs_255_44, zs_255_47, zs_255_49, zs_255_52, zs_255_52n, zs_255_53, zs_255_56, zs_255_58, zs_255_61, zs_255_64, zs_255_64n, rcs, e196, if_neg ci, if_pos cj, e199, if_neg c3, if_neg c4, zbk_v, zts_s, List.cons_append, List.nil_append]
    · have cj : ¬ nI bs.length = nI 2 := fun q => c2 ((nI_eq (by omega) (by decide)).mp q)
      obtain ⟨h', s', a', q1, q2⟩ := key (fun q => q.elim c1 (fun q => c2 q.1))
      refine ⟨h', s', a', ?_, q2⟩
      rw [← q1]
      simp (disch := first | exact znw_u | exact znw_i) only [zc_255, zs_255_0, zs_255_1, zs_255_4, zs_255_5, zs_255_8, zs_255_9, zs_255_12, zs_255_13, rcs, e196, if_neg ci, if_neg cj, zbk_v, zts_s, List.cons_append, List.nil_append]
theorem yrem {x : Int32} {n : Nat} (h0 : 0 < n) (hn : n < 2 ^ 30) : (∃ r, r < n ∧ x - x / nI n * nI n = nI r) ∨ (∃ r, 0 < r ∧ r < n ∧ x - x / nI n * nI n = Int32.ofInt (-(r : Int))) := by
  have hx : Int32.ofInt x.toInt = x := Int32.ofInt_toInt x
  have hnn : Int32.ofInt (n : Int) = nI n := Int32.ofInt_eq_ofNat
  have hm : Int32.minValue.toInt = -2147483648 := by decide
  have hM : Int32.maxValue.toInt = 2147483647 := by decide
  have e : x / nI n = Int32.ofInt (x.toInt.tdiv n) := by
    rw [Int32.ofInt_tdiv x.minValue_le_toInt x.toInt_le (by rw [hm]; omega) (by rw [hM]; omega), hx, hnn]
  have e2 : x - x / nI n * nI n = Int32.ofInt (x.toInt - x.toInt.tdiv n * n) := by
    rw [Int32.ofInt_sub, Int32.ofInt_mul, hx, hnn, ← e]
  have e3 : x.toInt - x.toInt.tdiv n * n = x.toInt.tmod n := by rw [Int.tmod_def, Int.mul_comm]
  rw [e2, e3]
  have b1 := Int.tmod_lt_of_pos x.toInt (b := (n : Int)) (by omega)
  have b2 := Int.lt_tmod_of_pos x.toInt (b := (n : Int)) (by omega)
  by_cases c : 0 ≤ x.toInt.tmod n
  · obtain ⟨r, hr⟩ : ∃ r : Nat, x.toInt.tmod n = (r : Int) := ⟨(x.toInt.tmod n).toNat, by omega⟩
    rw [hr] at b1 ⊢
    exact Or.inl ⟨r, by omega, Int32.ofInt_eq_ofNat⟩
  · obtain ⟨r, hr⟩ : ∃ r : Nat, x.toInt.tmod n = -(r : Int) := ⟨(-(x.toInt.tmod n)).toNat, by omega⟩
    rw [hr] at b2 c ⊢
    exact Or.inr ⟨r, by omega, by omega, rfl⟩
/-- some -/
theorem l_217 {x : Int32} {n : Nat} (h0 : 0 < n) (hn : n < 2 ^ 30) : ∃ r, r < n ∧ ∀ (d : Nat) (h : zH), zcall zP sv (d + 1) 217 [.int x, .int (nI n)] h = some (.inl (some (.int (nI r))), h) := by
  have c0 : decide (¬ nI n = 0) = true := decide_eq_true (fun q => by
    rw [← nI_0] at q
    have := (nI_eq (by omega) (by decide)).mp q
    omega)
  rcases yrem (x := x) h0 hn with ⟨r, h1, e⟩ | ⟨r, h1, h2, e⟩
  · have c1 : ¬ nI r < 0 := nI_pos (by omega)
    refine ⟨r, h1, fun d h => ?_⟩
    simp (disch := first | exact znw_u | exact znw_i) only [zc_217, zs_217_0, zs_217_1, zs_217_2, zs_217_3, zs_217_4, zs_217_5, zs_217_8, zs_217_9, zs_217_10, zs_217_11, zs_217_14, zs_217_15, c0, zgd_t, e, if_neg c1]
  · have c1 : Int32.ofInt (-(r : Int)) < 0 := by
      rw [Int32.lt_iff_toInt_lt, Int32.toInt_ofInt_of_le (by omega) (by omega)]
      show -(r : Int) < 0
      omega
    have e4 : Int32.ofInt (-(r : Int)) + nI n = nI (n - r) := by
      have q1 : nI n = Int32.ofInt (n : Int) := Int32.ofInt_eq_ofNat.symm
      have q2 : nI (n - r) = Int32.ofInt ((n - r : Nat) : Int) := Int32.ofInt_eq_ofNat.symm
      rw [q1, q2, ← Int32.ofInt_add]
      exact congrArg Int32.ofInt (by omega)
    refine ⟨n - r, by omega, fun d h => ?_⟩
    simp (disch := first | exact znw_u | exact znw_i) only [zc_217, zs_217_0, zs_217_1, zs_217_2, zs_217_3, zs_217_4, zs_217_5, zs_217_8, zs_217_9, zs_217_10, zs_217_11, zs_217_14, zs_217_15, c0, zgd_t, e, if_pos c1, e4]
theorem ytx_c : ∀ r, r < 7 → ((nI 97 + nI r).toUInt32 % 65536).toInt32 = nI (97 + r) := by decide +kernel
theorem nI_m1 {n : Nat} : nI (n + 1) - nI 1 = nI n := nI_subn (a := n + 1) (b := 1) (by omega)
/-- the number of builders -/
def yTb : Nat → Nat
  | 0 => 1
  | n + 1 => 2 * yTb n + 3
/-- text -/
theorem l_254 (hz : sv 0 = .int (nI 1)) (h3 : zty 4 (sv 3) = true) : ∀ n, n ≤ 3 → ∀ (z : Int32) (h : zH), zKs sv h → zDg sv h → ∃ (h' : zH) (s a : Nat) (b : List Int32) (t : yT), zcall zP sv (d + 10 + n) 254 [.int z, .int (nI n)] h = some (.inl (some (.ref s)), h') ∧ zStr h' s a b ∧ (h.2.1 ≤ s ∧ h.2.1 ≤ a) ∧ yTx n b t ∧ zns (1000 * yTb n) (2100 * yTb n) h h' := by
  have leaf : ∀ (n : Nat) (z y : Int32) (h : zH) (l4 : Slot), zKs sv h → zDg sv h → ∀ i, i < 5 → znw l4 = true → ∃ (h' : zH) (s a : Nat) (b : List Int32) (t : yT), zrun zP sv (zcall zP sv (d + 9 + n)) 254 29 [.val (.int z), .val (.int (nI n)), .val (.int y), .val (.int (nI i)), l4] [] h = some (.inl (some (.ref s)), h') ∧ zStr h' s a b ∧ (h.2.1 ≤ s ∧ h.2.1 ≤ a) ∧ yLf b t ∧ zns 1000 2100 h h' := by
    intro n z y h l4 hK hD i hi hl4
    obtain ⟨D, hDD⟩ : ∃ D, d + 9 + n = D + 6 := ⟨d + 3 + n, by omega⟩
    rw [hDD]
    obtain ⟨h1, hh1⟩ : ∃ h1, h1 = zext h [(2, [.ref (h.2.1 + 1), .int 0, .int 0, .int 0]), (24, List.replicate 16 (.int 0))] 20 := ⟨_, rfl⟩
    have e0 : zcall zP sv (D + 6) 0 [.ref h.2.1] (znew h (2, [.null, .int 0, .int 0, .int 0]) 4) = _ := c_sbn (d := D + 4) hz
    rw [← hh1] at e0
    have rn : ∀ X : zR, zrc ((znew h (2, [.null, .int 0, .int 0, .int 0]) 4).1 h.2.1) 2 X = X := fun X => by rw [znew_at]; exact zrc_k
    have B1 := zBd_0 hh1
    have K1 := zKs_q hK B1.2.2.1 B1.2.2.2.1
    obtain ⟨c0, a0, k0, t0, u0⟩ := zKs_at K1 (i := 0) (by decide)
    have k0' : sv 4 = .ref c0 := k0
    have t0' : zStr h1 c0 a0 [] := t0
    have ne1 : a0 ≠ h.2.1 + 1 := fun q => by
      have := (zBl_k B1.1).2
      rw [q, this] at u0
      exact absurd u0 (by decide)
    obtain ⟨h2, v2, b2, e2, B2, f2, m2⟩ := zBd_ad B1 (s_201 (d := D + 1) hz B1.1 t0' ne1 (by show 0 + 0 ≤ 450; omega))
    have D2 := zDg_q hD B2.2.2.1 B2.2.2.2.1
    have r1 := zBd_rc B1
    have r2 := zBd_rc B2
    by_cases c : i < 3
    · have ci : nI i < nI 3 := nI_lt c (by decide)
      obtain ⟨r, hr, e217⟩ := l_217 (sv := sv) (x := y >>> (nI 4 &&& 31)) (n := 6) (by decide) (by decide)
      have ec := ytx_c r (by omega)
      obtain ⟨h3', v3, b3, e3, B3, f3, m3⟩ := zBd_ad B2 (d_15 (sv := sv) (d := D + 1) (k := 97 + r) hz B2.1 (by show 0 + 1 ≤ 450; omega) (by omega))
      have r3 := zBd_rc B3
      have eo : [] ++ [] ++ [nI (97 + r)] = [nI (97 + r)] := rfl
      rw [eo] at B3
      obtain ⟨h4, s4, a4, e4, S4, g4, n4⟩ := zBd_to (d := D) hz B3 (by show 1 ≤ 60; decide) (fun x hx => by rw [List.mem_singleton.mp hx]; exact yas7_i (by omega))
      refine ⟨h4, s4, a4, [nI (97 + r)], ymk (nI 118) (nI (97 + r)) .leaf .leaf, ?_, S4, g4, Or.inl ⟨r, hr, rfl, rfl⟩, zns_mono n4 (by omega) (by omega)⟩
      simp (disch := first | exact znw_u | exact znw_i) only [zs_254_0, zs_254_1, zs_254_2, zs_254_4, zs_254_5, zs_254_6, zs_254_8, zs_254_9, zs_254_12, zs_254_13, zs_254_14, zs_254_15, zs_254_16, zs_254_19, zs_254_20, zs_254_23, zs_254_25, zs_254_28, zs_254_29, zs_254_30, zs_254_31, zs_254_34, zs_254_37, zs_254_38, zs_254_41, zs_254_43, zs_254_46, zs_254_48, zs_254_49, zs_254_50, zs_254_51, zs_254_53, zs_254_56, zs_254_57, zs_254_58, zs_254_61, zs_254_64, zs_254_64n, zs_254_65, zs_254_66, zs_254_67, zs_254_70, zs_254_73, zs_254_74, zs_254_77, zs_254_79, zs_254_82, zs_254_83, zs_254_84, zs_254_85, zs_254_86, zs_254_88, zs_254_89, zs_254_90, zs_254_91, zs_254_94, zs_254_95, zs_254_98, zs_254_100, zs_254_103, zs_254_106, zs_254_109, zs_254_109n, zs_254_110, zs_254_111, zs_254_112, zs_254_115, zs_254_118, zs_254_119, zs_254_122, zs_254_124, zs_254_127, zs_254_128, zs_254_129, zs_254_130, zs_254_131, zs_254_132, zs_254_133, zs_254_136, zs_254_139, zs_254_142, zs_254_145, zs_254_145n, zs_254_146, zs_254_147, zs_254_149, zs_254_152, zs_254_154, zs_254_157, zs_254_158, zs_254_160, zs_254_163, zs_254_165, zs_254_168, zs_254_170, zs_254_170n, zs_254_172, zs_254_175, zs_254_176, zs_254_179, zs_254_180, zs_254_181, zs_254_182, zs_254_183, zs_254_184, zs_254_185, zs_254_188, zs_254_191, zs_254_194, zs_254_194n, zs_254_196, zs_254_199, zs_254_200, zs_254_201, zs_254_202, zs_254_203, zs_254_204, zs_254_205, zs_254_208, zs_254_211, zs_254_214, zs_254_217, zs_254_217n, if_pos ci, rn, e0, k0', r1, e2, r2, e217, ec, e3, r3, e4, zbk_v, zts_s, zts_n, List.cons_append, List.nil_append]
    · have ci : ¬ nI i < nI 3 := nI_nlt (by omega) (by omega)
      have cj : nI i < nI 5 := nI_lt hi (by decide)
      have fin : ∀ v, v < 100 → ∃ (h' : zH) (s a : Nat) (b : List Int32) (t : yT), zrun zP sv (zcall zP sv (D + 6)) 254 103 [.val (.int z), .val (.int (nI n)), .val (.int y), .val (.int (nI i)), l4] [.int (nI v), .ref h.2.1] h2 = some (.inl (some (.ref s)), h') ∧ zStr h' s a b ∧ (h.2.1 ≤ s ∧ h.2.1 ≤ a) ∧ yLf b t ∧ zns 1000 2100 h h' := by
        intro v hv
        have hy : (yits (nI v)).length ≤ 2 ∧ ∀ x, x ∈ yits (nI v) → yas7 x := by
          obtain ⟨q1, q2, q3, q4, q5⟩ := yLf_p (b := yits (nI v)) (t := ycn (nI v)) (Or.inr ⟨v, hv, rfl, rfl⟩)
          exact ⟨q2, q3⟩
        obtain ⟨h3', v3, b3, e3, B3, f3, m3⟩ := zBd_ad B2 (d_9 (sv := sv) (d := D + 1) (x := nI v) hz D2 B2.1 (by show 0 + 11 ≤ 450; omega))
        have r3 := zBd_rc B3
        have eo : [] ++ [] ++ yits (nI v) = yits (nI v) := rfl
        rw [eo] at B3
        obtain ⟨h4, s4, a4, e4, S4, g4, n4⟩ := zBd_to (d := D) hz B3 (by omega) hy.2
        refine ⟨h4, s4, a4, yits (nI v), ycn (nI v), ?_, S4, g4, Or.inr ⟨v, hv, rfl, rfl⟩, zns_mono n4 (by omega) (by omega)⟩
        simp (disch := first | exact znw_u | exact znw_i) only [zs_254_103, zs_254_106, zs_254_109, r2, e3, r3, e4, zbk_v, zts_s, zts_n, List.cons_append, List.nil_append]
      by_cases c9 : (y >>> (nI 8 &&& 31)) &&& nI 1 = 0
      · obtain ⟨r, hr, e217⟩ := l_217 (sv := sv) (x := y >>> (nI 4 &&& 31)) (n := 3) (by decide) (by decide)
        obtain ⟨h', s, a, b, t, q1, q2⟩ := fin r (by omega)
        refine ⟨h', s, a, b, t, ?_, q2⟩
        rw [← q1]
        simp (disch := first | exact znw_u | exact znw_i) only [zs_254_0, zs_254_1, zs_254_2, zs_254_4, zs_254_5, zs_254_6, zs_254_8, zs_254_9, zs_254_12, zs_254_13, zs_254_14, zs_254_15, zs_254_16, zs_254_19, zs_254_20, zs_254_23, zs_254_25, zs_254_28, zs_254_29, zs_254_30, zs_254_31, zs_254_34, zs_254_37, zs_254_38, zs_254_41, zs_254_43, zs_254_46, zs_254_48, zs_254_49, zs_254_50, zs_254_51, zs_254_53, zs_254_56, zs_254_57, zs_254_58, zs_254_61, zs_254_64, zs_254_64n, zs_254_65, zs_254_66, zs_254_67, zs_254_70, zs_254_73, zs_254_74, zs_254_77, zs_254_79, zs_254_82, zs_254_83, zs_254_84, zs_254_85, zs_254_86, zs_254_88, zs_254_89, zs_254_90, zs_254_91, zs_254_94, zs_254_95, zs_254_98, zs_254_100, zs_254_106, zs_254_109, zs_254_109n, zs_254_110, zs_254_111, zs_254_112, zs_254_115, zs_254_118, zs_254_119, zs_254_122, zs_254_124, zs_254_127, zs_254_128, zs_254_129, zs_254_130, zs_254_131, zs_254_132, zs_254_133, zs_254_136, zs_254_139, zs_254_142, zs_254_145, zs_254_145n, zs_254_146, zs_254_147, zs_254_149, zs_254_152, zs_254_154, zs_254_157, zs_254_158, zs_254_160, zs_254_163, zs_254_165, zs_254_168, zs_254_170, zs_254_170n, zs_254_172, zs_254_175, zs_254_176, zs_254_179, zs_254_180, zs_254_181, zs_254_182, zs_254_183, zs_254_184, zs_254_185, zs_254_188, zs_254_191, zs_254_194, zs_254_194n, zs_254_196, zs_254_199, zs_254_200, zs_254_201, zs_254_202, zs_254_203, zs_254_204, zs_254_205, zs_254_208, zs_254_211, zs_254_214, zs_254_217, zs_254_217n, if_neg ci, if_pos cj, if_pos c9, rn, e0, k0', r1, e2, r2, e217, zbk_v, zts_s, zts_n, List.cons_append, List.nil_append]
      · obtain ⟨r, hr, e217⟩ := l_217 (sv := sv) (x := y >>> (nI 4 &&& 31)) (n := 100) (by decide) (by decide)
        obtain ⟨h', s, a, b, t, q1, q2⟩ := fin r hr
        refine ⟨h', s, a, b, t, ?_, q2⟩
        rw [← q1]
        simp (disch := first | exact znw_u | exact znw_i) only [zs_254_0, zs_254_1, zs_254_2, zs_254_4, zs_254_5, zs_254_6, zs_254_8, zs_254_9, zs_254_12, zs_254_13, zs_254_14, zs_254_15, zs_254_16, zs_254_19, zs_254_20, zs_254_23, zs_254_25, zs_254_28, zs_254_29, zs_254_30, zs_254_31, zs_254_34, zs_254_37, zs_254_38, zs_254_41, zs_254_43, zs_254_46, zs_254_48, zs_254_49, zs_254_50, zs_254_51, zs_254_53, zs_254_56, zs_254_57, zs_254_58, zs_254_61, zs_254_64, zs_254_64n, zs_254_65, zs_254_66, zs_254_67, zs_254_70, zs_254_73, zs_254_74, zs_254_77, zs_254_79, zs_254_82, zs_254_83, zs_254_84, zs_254_85, zs_254_86, zs_254_88, zs_254_89, zs_254_90, zs_254_91, zs_254_94, zs_254_95, zs_254_98, zs_254_100, zs_254_106, zs_254_109, zs_254_109n, zs_254_110, zs_254_111, zs_254_112, zs_254_115, zs_254_118, zs_254_119, zs_254_122, zs_254_124, zs_254_127, zs_254_128, zs_254_129, zs_254_130, zs_254_131, zs_254_132, zs_254_133, zs_254_136, zs_254_139, zs_254_142, zs_254_145, zs_254_145n, zs_254_146, zs_254_147, zs_254_149, zs_254_152, zs_254_154, zs_254_157, zs_254_158, zs_254_160, zs_254_163, zs_254_165, zs_254_168, zs_254_170, zs_254_170n, zs_254_172, zs_254_175, zs_254_176, zs_254_179, zs_254_180, zs_254_181, zs_254_182, zs_254_183, zs_254_184, zs_254_185, zs_254_188, zs_254_191, zs_254_194, zs_254_194n, zs_254_196, zs_254_199, zs_254_200, zs_254_201, zs_254_202, zs_254_203, zs_254_204, zs_254_205, zs_254_208, zs_254_211, zs_254_214, zs_254_217, zs_254_217n, if_neg ci, if_pos cj, if_neg c9, rn, e0, k0', r1, e2, r2, e217, zbk_v, zts_s, zts_n, List.cons_append, List.nil_append]
  intro n
  induction n with
  | zero =>
    intro _ z h hK hD
    obtain ⟨r, hr, e217⟩ := l_217 (sv := sv) (x := (z ^^^ (z.toUInt32 >>> ((nI 11).toUInt32 &&& Int32.toUInt32 31)).toInt32) * nI 40503 + nI 977) (n := 5) (by decide) (by decide)
    obtain ⟨h', s, a, b, t, q1, q2, q3, q4, q5⟩ := leaf 0 z ((z ^^^ (z.toUInt32 >>> ((nI 11).toUInt32 &&& Int32.toUInt32 31)).toInt32) * nI 40503 + nI 977) h .unset hK hD r hr rfl
    refine ⟨h', s, a, b, t, ?_, q2, q3, q4, zns_mono q5 (by show 1000 ≤ 1000 * 1; decide) (by show 2100 ≤ 2100 * 1; decide)⟩
    rw [← q1]
    show zcall zP sv (d + 9 + 1) 254 [.int z, .int (nI 0)] h = zrun zP sv (zcall zP sv (d + 9)) 254 29 _ _ _
    rw [nI_0]
    simp (disch := first | exact znw_u | exact znw_i) only [zc_254, zs_254_0, zs_254_1, zs_254_2, zs_254_4, zs_254_5, zs_254_6, zs_254_8, zs_254_9, zs_254_12, zs_254_13, zs_254_14, zs_254_15, zs_254_16, zs_254_19, zs_254_20, zs_254_25, zs_254_28, e217, zbk_v, zts_s, ↓reduceIte, List.cons_append, List.nil_append]
  | succ n ih =>
    intro hn z h hK hD
    have ih := ih (by omega)
    have hb2 : 2 ≤ 2 * yTb n + 2 := by omega
    have h7 : 7 * 2 ^ n ≤ 28 := by
      rcases (show n = 0 ∨ n = 1 ∨ n = 2 by omega) with rfl | rfl | rfl <;> decide
    obtain ⟨y, hy⟩ : ∃ y, y = (z ^^^ (z.toUInt32 >>> ((nI 11).toUInt32 &&& Int32.toUInt32 31)).toInt32) * nI 40503 + nI 977 := ⟨_, rfl⟩
    obtain ⟨r, hr, e217⟩ := l_217 (sv := sv) (x := y) (n := 13) (by decide) (by decide)
    have nz : ¬ nI (n + 1) = 0 := fun q => by
      rw [← nI_0] at q
      have := (nI_eq (by omega) (by decide)).mp q
      omega
    -- to the choice
    have e28 : zcall zP sv (d + 10 + (n + 1)) 254 [.int z, .int (nI (n + 1))] h = zrun zP sv (zcall zP sv (d + 9 + (n + 1))) 254 29 [.val (.int z), .val (.int (nI (n + 1))), .val (.int y), .val (.int (nI r)), .unset] [] h := by
      show zcall zP sv (d + 10 + n + 1) 254 [.int z, .int (nI (n + 1))] h = _
      have e217' : zcall zP sv (d + 10 + n) 217 [.int y, .int (nI 13)] h = some (.inl (some (.int (nI r))), h) := by
        have q := e217 (d + 9 + n) h
        rw [show d + 9 + n + 1 = d + 10 + n by omega] at q
        exact q
      rw [show d + 9 + (n + 1) = d + 10 + n by omega]
      simp (disch := first | exact znw_u | exact znw_i) only [zc_254, zs_254_0, zs_254_1, zs_254_2, zs_254_4, zs_254_5, zs_254_6, zs_254_8, zs_254_9, zs_254_12, zs_254_13, zs_254_14, zs_254_15, zs_254_16, zs_254_23, zs_254_25, zs_254_28, if_neg nz, ← hy, e217', zbk_v, zts_s, List.cons_append, List.nil_append]
    rw [e28]
    by_cases c5 : r < 5
    · obtain ⟨h', s, a, b, t, q1, q2, q3, q4, q5⟩ := leaf (n + 1) z y h .unset hK hD r c5 rfl
      exact ⟨h', s, a, b, t, q1, q2, q3, Or.inl q4, zns_mono q5 (by show 1000 ≤ 1000 * (2 * yTb n + 3); omega) (by show 2100 ≤ 2100 * (2 * yTb n + 3); omega)⟩
    · have n3 : ¬ nI r < nI 3 := nI_nlt (by omega) (by omega)
      have n5 : ¬ nI r < nI 5 := nI_nlt (by omega) (by omega)
      rw [show d + 9 + (n + 1) = d + 10 + n by omega]
      obtain ⟨D, hDD⟩ : ∃ D, d + 10 + n = D + 7 := ⟨d + 3 + n, by omega⟩
      obtain ⟨h1, hh1⟩ : ∃ h1, h1 = zext h [(2, [.ref (h.2.1 + 1), .int 0, .int 0, .int 0]), (24, List.replicate 16 (.int 0))] 20 := ⟨_, rfl⟩
      have e0 : zcall zP sv (D + 7) 0 [.ref h.2.1] (znew h (2, [.null, .int 0, .int 0, .int 0]) 4) = _ := c_sbn (d := D + 5) hz
      rw [← hh1] at e0
      have rn : ∀ X : zR, zrc ((znew h (2, [.null, .int 0, .int 0, .int 0]) 4).1 h.2.1) 2 X = X := fun X => by rw [znew_at]; exact zrc_k
      have B1 := zBd_0 hh1
      have r1 := zBd_rc B1
      -- a part's text, in parentheses, appended
      have part : ∀ (x : Int32) (N K r' v : Nat) (hh : zH) (B o : List Int32), zBd N K h hh r' v B o → o.length ≤ 60 → ∃ (ha hi : zH) (sa aa si ai : Nat) (b1 : List Int32) (t1 : yT) (hc : zH) (vc : Nat) (Bc : List Int32), zcall zP sv (D + 7) 254 [.int x, .int (nI n)] hh = some (.inl (some (.ref sa)), ha) ∧ zcall zP sv (D + 7) 255 [.ref sa] ha = some (.inl (some (.ref si)), hi) ∧ (∀ X : zR, zrc (hi.1 r') 2 X = X) ∧ zcall zP sv (D + 7) 201 [.ref r', .ref si] hi = some (.inl (some (.ref r')), hc) ∧ yTx n b1 t1 ∧ zBd (N + (1000 * yTb n + 1000)) (K + (2100 * yTb n + 2100)) h hc r' vc Bc (o ++ yIn b1) ∧ (∀ q, q < hh.2.1 → q ≠ r' → q ≠ v → hc.1 q = hh.1 q) ∧ hh.2.1 ≤ hc.2.1 := by
        intro x N K r' v hh B o b ho
        have K1 := zKs_q hK b.2.2.1 b.2.2.2.1
        have D1 := zDg_q hD b.2.2.1 b.2.2.2.1
        obtain ⟨ha, sa, aa, b1, t1, e1, S1, ⟨g1, g1'⟩, T1, N1⟩ := ih x hh K1 D1
        rw [hDD] at e1
        have K2 := zKs_q K1 N1.1 N1.2.1
        obtain ⟨p1, p2, p3, _⟩ := yTx_p n b1 t1 T1
        obtain ⟨hi, si, ai, e2, S2, g2, N2⟩ := l_255 (sv := sv) (d := D) hz h3 K2 S1 p1 (by omega)
        have b2 := zBd_ns b (zns_tr N1 N2)
        have hv := b.1.2.2.1.2.1
        have aiv : ai ≠ v := by
          have := N1.2.1
          rcases g2 with ⟨_, q⟩ | ⟨_, q⟩
          · omega
          · omega
        have li := (yIn_le b1).1
        obtain ⟨hc, vc, Bc, e3, b3, f3, m3⟩ := zBd_ad b2 (s_201 (d := D + 2) hz b2.1 S2 aiv (by omega))
        have N12 := zns_tr N1 N2
        exact ⟨ha, hi, sa, aa, si, ai, b1, t1, hc, vc, Bc, e1, e2, zBd_rc b2, e3, T1, b3, fun q q1 q2 q3 => by rw [f3 q (by have := N12.2.1; omega) q2 q3, N12.1 q q1], by have := N12.2.1; omega⟩
      rw [hDD]
      by_cases c6 : r = 5
      · have e5 : nI r = nI 5 := by rw [c6]
        have K1 := zKs_q hK B1.2.2.1 B1.2.2.2.1
        obtain ⟨c0, a0, k0, t0, u0⟩ := zKs_at K1 (i := 1) (by decide)
        have k0' : sv 5 = .ref c0 := k0
        have t0' : zStr h1 c0 a0 [nI 45] := t0
        have ne1 : a0 ≠ h.2.1 + 1 := fun q => by
          have := (zBl_k B1.1).2
          rw [q, this] at u0
          exact absurd u0 (by decide)
        obtain ⟨h2, v2, b2, e2, B2, f2, m2⟩ := zBd_ad B1 (s_201 (d := D + 2) hz B1.1 t0' ne1 (by show 0 + 1 ≤ 450; omega))
        have r2 := zBd_rc B2
        obtain ⟨ha, hi, sa, aa, si, ai, b1, t1, hc, vc, Bc, g1, g2, ri, g3, T1, B3, _, _⟩ := part (y >>> (nI 3 &&& 31)) _ _ _ _ _ _ _ B2 (by show 0 + 1 ≤ 60; decide)
        have r3 := zBd_rc B3
        have T : yTx (n + 1) ([nI 45] ++ yIn b1) (ymk (nI 110) 0 t1 .leaf) := Or.inr (Or.inl ⟨b1, t1, T1, rfl, rfl⟩)
        obtain ⟨_, pl, pa, _⟩ := yTx_p _ _ _ T
        have p2 : 2 ^ (n + 1) = 2 * 2 ^ n := by rw [Nat.pow_succ, Nat.mul_comm]
        have eo : [] ++ [nI 45] ++ yIn b1 = [nI 45] ++ yIn b1 := rfl
        rw [eo] at B3
        obtain ⟨h4, s4, a4, e4, S4, g4, n4⟩ := zBd_to (d := D + 1) hz B3 (by omega) pa
        refine ⟨h4, s4, a4, _, _, ?_, S4, g4, T, zns_mono n4 (by show _ ≤ 1000 * (2 * yTb n + 3); omega) (by show _ ≤ 2100 * (2 * yTb n + 3); omega)⟩
        simp (disch := first | exact znw_u | exact znw_i) only [zs_254_0, zs_254_1, zs_254_2, zs_254_4, zs_254_5, zs_254_6, zs_254_8, zs_254_9, zs_254_12, zs_254_13, zs_254_14, zs_254_15, zs_254_16, zs_254_19, zs_254_20, zs_254_23, zs_254_25, zs_254_28, zs_254_29, zs_254_30, zs_254_31, zs_254_34, zs_254_37, zs_254_38, zs_254_41, zs_254_43, zs_254_46, zs_254_48, zs_254_49, zs_254_50, zs_254_51, zs_254_53, zs_254_56, zs_254_57, zs_254_58, zs_254_61, zs_254_64, zs_254_64n, zs_254_65, zs_254_66, zs_254_67, zs_254_70, zs_254_73, zs_254_74, zs_254_77, zs_254_79, zs_254_82, zs_254_83, zs_254_84, zs_254_85, zs_254_86, zs_254_88, zs_254_89, zs_254_90, zs_254_91, zs_254_94, zs_254_95, zs_254_98, zs_254_100, zs_254_103, zs_254_106, zs_254_109, zs_254_109n, zs_254_110, zs_254_111, zs_254_112, zs_254_115, zs_254_118, zs_254_119, zs_254_122, zs_254_124, zs_254_127, zs_254_128, zs_254_129, zs_254_130, zs_254_131, zs_254_132, zs_254_133, zs_254_136, zs_254_139, zs_254_142, zs_254_145, zs_254_145n, zs_254_146, zs_254_147, zs_254_149, zs_254_152, zs_254_154, zs_254_157, zs_254_158, zs_254_160, zs_254_163, zs_254_165, zs_254_168, zs_254_170, zs_254_170n, zs_254_172, zs_254_175, zs_254_176, zs_254_179, zs_254_180, zs_254_181, zs_254_182, zs_254_183, zs_254_184, zs_254_185, zs_254_188, zs_254_191, zs_254_194, zs_254_194n, zs_254_196, zs_254_199, zs_254_200, zs_254_201, zs_254_202, zs_254_203, zs_254_204, zs_254_205, zs_254_208, zs_254_211, zs_254_214, zs_254_217, zs_254_217n, if_neg n3, if_neg n5, if_pos e5, rn, e0, k0', r1, e2, r2, nI_m1, g1, g2, ri, g3, r3, e4, zbk_v, zts_s, zts_n, List.cons_append, List.nil_append]
      · have e5 : ¬ nI r = nI 5 := fun q => c6 ((nI_eq (by omega) (by decide)).mp q)
        -- the sign
        have sg : ∃ (k cs as : Nat), (k = 42 ∨ k = 43 ∨ k = 45) ∧ (h.1 cs = (19, [.ref as, .int 0]) ∧ h.1 as = (27, [nI k].map Value.int) ∧ cs < h.2.1 ∧ as < h.2.1) ∧ zrun zP sv (zcall zP sv (D + 7)) 254 29 [.val (.int z), .val (.int (nI (n + 1))), .val (.int y), .val (.int (nI r)), .unset] [] h = zrun zP sv (zcall zP sv (D + 7)) 254 172 [.val (.int z), .val (.int (nI (n + 1))), .val (.int y), .val (.int (nI r)), .val (.ref cs)] [] h := by
          by_cases c8 : r < 8
          · have q8 : nI r < nI 8 := nI_lt c8 (by decide)
            obtain ⟨s, a, k1, k2, k3, k4, k5⟩ := hK 2 (by decide)
            have k1' : sv 6 = .ref s := k1
            refine ⟨42, s, a, Or.inl rfl, ⟨k2, k3, k4, k5⟩, ?_⟩
            simp (disch := first | exact znw_u | exact znw_i) only [zs_254_29, zs_254_30, zs_254_31, zs_254_65, zs_254_66, zs_254_67, zs_254_110, zs_254_111, zs_254_112, zs_254_146, zs_254_147, zs_254_149, zs_254_152, zs_254_154, zs_254_170, if_neg n3, if_neg n5, if_neg e5, if_pos q8, k1']
          · have q8 : ¬ nI r < nI 8 := nI_nlt (by omega) (by omega)
            by_cases c11 : r < 11
            · have q11 : nI r < nI 11 := nI_lt c11 (by decide)
              obtain ⟨s, a, k1, k2, k3, k4, k5⟩ := hK 3 (by decide)
              have k1' : sv 7 = .ref s := k1
              refine ⟨43, s, a, Or.inr (Or.inl rfl), ⟨k2, k3, k4, k5⟩, ?_⟩
              simp (disch := first | exact znw_u | exact znw_i) only [zs_254_29, zs_254_30, zs_254_31, zs_254_65, zs_254_66, zs_254_67, zs_254_110, zs_254_111, zs_254_112, zs_254_146, zs_254_147, zs_254_149, zs_254_157, zs_254_158, zs_254_160, zs_254_163, zs_254_165, zs_254_170, if_neg n3, if_neg n5, if_neg e5, if_neg q8, if_pos q11, k1']
            · have q11 : ¬ nI r < nI 11 := nI_nlt (by omega) (by omega)
              obtain ⟨s, a, k1, k2, k3, k4, k5⟩ := hK 1 (by decide)
              have k1' : sv 5 = .ref s := k1
              refine ⟨45, s, a, Or.inr (Or.inr rfl), ⟨k2, k3, k4, k5⟩, ?_⟩
              simp (disch := first | exact znw_u | exact znw_i) only [zs_254_29, zs_254_30, zs_254_31, zs_254_65, zs_254_66, zs_254_67, zs_254_110, zs_254_111, zs_254_112, zs_254_146, zs_254_147, zs_254_149, zs_254_157, zs_254_158, zs_254_160, zs_254_168, zs_254_170, if_neg n3, if_neg n5, if_neg e5, if_neg q8, if_neg q11, k1']
        obtain ⟨k, cs, as, hk, ⟨u1, u2, u3, u4⟩, e29⟩ := sg
        rw [e29]
        obtain ⟨ha, hi, sa, aa, si, ai, b1, t1, hc, vc, Bc, g1, g2, ri, g3, T1, B2, f2, m2⟩ := part (y >>> (nI 3 &&& 31)) _ _ _ _ _ _ _ B1 (by decide)
        have r2 := zBd_rc B2
        obtain ⟨p1, pl1, _⟩ := yTx_p n b1 t1 T1
        have li1 := (yIn_le b1).1
        have S2 : zStr hc cs as [nI k] := ⟨Or.inr ⟨by rw [B2.2.2.1 cs u3, u1], by rw [B2.2.2.1 as u4, u2]⟩, by have := B2.2.2.2.1; omega, by have := B2.2.2.2.1; omega, by show 1 ≤ 60; decide, fun x hx => by rw [List.mem_singleton.mp hx]; exact yas7_i (by omega)⟩
        have ne2 : as ≠ vc := by have := B2.2.1.2; omega
        obtain ⟨h3', v3, b3, e3, B3, f3, m3⟩ := zBd_ad B2 (s_201 (d := D + 2) hz B2.1 S2 ne2 (by rw [List.nil_append]; show (yIn b1).length + 1 ≤ 450; omega))
        have r3 := zBd_rc B3
        obtain ⟨ha', hi', sa', aa', si', ai', b1', t1', hc', vc', Bc', g1', g2', ri', g3', T1', B4, f4, m4⟩ := part (y >>> (nI 5 &&& 31)) _ _ _ _ _ _ _ B3 (by rw [List.nil_append, List.length_append]; show (yIn b1).length + 1 ≤ 60; omega)
        have r4 := zBd_rc B4
        have T : yTx (n + 1) (yIn b1 ++ ([nI k] ++ yIn b1')) (ymk (nI k) 0 t1 t1') := Or.inr (Or.inr ⟨k, b1, t1, b1', t1', hk, T1, T1', rfl, rfl⟩)
        obtain ⟨_, pl, pa, _⟩ := yTx_p _ _ _ T
        have p2 : 2 ^ (n + 1) = 2 * 2 ^ n := by rw [Nat.pow_succ, Nat.mul_comm]
        have eo : [] ++ yIn b1 ++ [nI k] ++ yIn b1' = yIn b1 ++ ([nI k] ++ yIn b1') := by rw [List.nil_append, List.append_assoc]
        rw [eo] at B4
        obtain ⟨h4, s4, a4, e4, S4, g4, n4⟩ := zBd_to (d := D + 1) hz B4 (by omega) pa
        refine ⟨h4, s4, a4, _, _, ?_, S4, g4, T, zns_mono n4 (by show _ ≤ 1000 * (2 * yTb n + 3); omega) (by show _ ≤ 2100 * (2 * yTb n + 3); omega)⟩
        simp (disch := first | exact znw_u | exact znw_i) only [zs_254_172, zs_254_175, zs_254_176, zs_254_179, zs_254_180, zs_254_181, zs_254_182, zs_254_183, zs_254_184, zs_254_185, zs_254_188, zs_254_191, zs_254_194, zs_254_196, zs_254_199, zs_254_200, zs_254_201, zs_254_202, zs_254_203, zs_254_204, zs_254_205, zs_254_208, zs_254_211, zs_254_214, zs_254_217, rn, e0, r1, nI_m1, g1, g2, ri, g3, r2, e3, r3, g1', g2', ri', g3', r4, e4, zbk_v, zts_s, zts_n, List.cons_append, List.nil_append]
end ZTM

section ZAK
variable {sv : Nat → Value} {d : Nat} {h : zH} {m : Nat} {w : yW}
/-- what add answers -/
def yaC (x : zO) : Int32 := match x with
  | .inl (some (.int v)) => v
  | .inr 0 => -1002
  | .inr 1 => -1001
  | _ => -1003
theorem h_219 (hc : zCls h m w) : zEnd h m (zcall zP sv (d + 48) 219 [.ref m] h) 9 134 (.inl (some (.int (yaC (yaddF w).1)))) (yaddF w).2 := by
  have e := d_26 (sv := sv) (d := d) hc
  rcases hq : (yadd w.1).1 with _ | t
  · have q : yaddF w = (.inr 1, yse (ysb w []) (nI (yadd w.1).2)) := by unfold yaddF; rw [hq]
    rw [q] at e ⊢
    exact h_219e1 hc e
  · by_cases c6 : (ycur w).1.length = 6
    · have q : yaddF w = (.inr 0, ysb w []) := by
        unfold yaddF
        rw [hq]
        exact if_pos c6
      rw [q] at e ⊢
      exact h_219e0 hc e
    · by_cases c : ysz t ≤ 31 ∧ ydp t ≤ 8
      · have q : yaddF w = (.inl (some (.int (nI (ycur w).1.length))), ysc (yrec (ysb w [])) ((ycur w).1 ++ [t], (ycur w).2)) := by
          unfold yaddF
          rw [hq]
          exact (if_neg c6).trans (if_pos c)
        rw [q] at e ⊢
        exact h_219v hc e
      · have q : yaddF w = (.inr 3, ysb w []) := by
          unfold yaddF
          rw [hq]
          exact (if_neg c6).trans (if_neg c)
        rw [q] at e ⊢
        exact h_219e3 hc e
theorem zStr_fx {s a N K : Nat} {bs : List Int32} {h' : zH} (hs : zStr h s a bs) (so : s < m ∨ m + 119 ≤ s) (ao : a < m ∨ m + 119 ≤ a) (f : zfx m (m + 119) N K h h') : zStr h' s a bs := zStr_q hs (f.1 s hs.2.1 so) (f.1 a hs.2.2.1 ao) f.2.1
theorem nI_p1 {k : Nat} : nI k + nI 1 = nI (k + 1) := nI_add k 1
/-- adds -/
theorem l_253 {s a : Nat} {bs : List Int32} (hz : sv 0 = .int (nI 1)) (h3 : zty 4 (sv 3) = true) (hc : zCls h m w) (hs : zStr h s a bs) (so : s < m ∨ m + 119 ≤ s) (ao : a < m ∨ m + 119 ≤ a) : zEnd h m (zcall zP sv (d + 49) 253 [.ref m, .ref s] h) 69 494 (.inl (some (.int (yaC (yaddF (ysb w bs)).1)))) (yaddF (ysb w bs)).2 := by
  have h60 := hs.2.2.2.1
  have key : ∀ n k (h : zH), k + n = bs.length → zCls h m (ysb w (bs.take k)) → zStr h s a bs → ∃ h', zrun zP sv (zcall zP sv (d + 48)) 253 13 [.val (.ref m), .val (.ref s), .val (.int (nI k))] [] h = zrun zP sv (zcall zP sv (d + 48)) 253 46 [.val (.ref m), .val (.ref s), .val (.int (nI bs.length))] [] h' ∧ zCls h' m (ysb w bs) ∧ zfx m (m + 119) n (6 * n) h h' := by
    intro n
    induction n with
    | zero =>
      intro k h hk hc hs
      obtain rfl : k = bs.length := by omega
      have c1 : ¬ nI bs.length < nI bs.length := nI_nlt (Nat.le_refl _) (by omega)
      have e196 : zcall zP sv (d + 48) 196 [.ref s] h = _ := s_196 (d := d + 46) hz hs
      rw [List.take_length] at hc
      refine ⟨h, ?_, hc, zfx_rfl⟩
      simp (disch := first | exact znw_u | exact znw_i) only [zs_253_13, zs_253_14, zs_253_15, zs_253_18, zStr_rc hs, e196, if_neg c1, zbk_v, zts_s, List.cons_append, List.nil_append]
    | succ n ih =>
      intro k h hk hc hs
      have hkl : k < bs.length := by omega
      have c1 : nI k < nI bs.length := nI_lt hkl (by omega)
      have e196 : zcall zP sv (d + 48) 196 [.ref s] h = _ := s_196 (d := d + 46) hz hs
      have e199 : zcall zP sv (d + 48) 199 [.ref s, .int (nI k)] h = _ := s_199 (d := d + 44) hz h3 hs hkl
      have q := zStr_as hs hkl
      have hl : (bs.take k).length = k := by rw [List.length_take]; omega
      have e24 := d_24 (sv := sv) (d := d + 44) (x := bs.getD k 0) hc
      have hl' : (ysb w (bs.take k)).1.length = k := hl
      rw [if_pos (show (ysb w (bs.take k)).1.length < 60 by omega), if_pos (show (ysb w (bs.take k)).1.length < 60 by omega), hl'] at e24
      have ew : ysb (ysb w (bs.take k)) ((ysb w (bs.take k)).1 ++ [ynr (bs.getD k 0)]) = ysb w (bs.take (k + 1)) := by
        rw [yas7_n q, List.take_succ_eq_append_getElem hkl, ygetD hkl]
        rfl
      rw [ew] at e24
      obtain ⟨h1, e1, c2, f1⟩ := h_218v hc e24
      have e1' : zcall zP sv (d + 48) 218 [.ref m, .int (bs.getD k 0)] h = _ := e1
      obtain ⟨h', e2, c3, f2⟩ := ih (k + 1) h1 (by omega) c2 (zStr_fx hs so ao f1)
      refine ⟨h', ?_, c3, zfx_mono (zfx_tr f1 f2) (Nat.le_refl _) (Nat.le_refl _) (by omega) (by omega)⟩
      rw [← e2]
      simp (disch := first | exact znw_u | exact znw_i) only [zs_253_13, zs_253_14, zs_253_15, zs_253_18, zs_253_21, zs_253_22, zs_253_23, zs_253_24, zs_253_27, zs_253_30, zs_253_31, zs_253_32, zs_253_33, zs_253_40, zs_253_43, zStr_rc hs, e196, e199, e1', if_pos c1, nI_p1, zbk_v, zts_s, ↓reduceIte, List.cons_append, List.nil_append]
  have e25 := d_25 (sv := sv) (d := d + 45) hc
  obtain ⟨h1, e1, c1, f1⟩ := e25
  have e1' : zcall zP sv (d + 48) 25 [.ref m] h = _ := e1
  have hw60 : ¬ nI w.1.length < 0 := by
    obtain ⟨_, _, _, _, _, ⟨pos, ns, p1⟩, _⟩ := hc
    have := p1.2.1.2.2.1
    exact nI_pos (by omega)
  obtain ⟨h2, e2, c2, f2⟩ := key bs.length 0 h1 (by omega) c1 (zStr_fx hs so ao f1)
  rw [nI_0] at e2
  obtain ⟨h4, e4, c4, f4⟩ := h_219 (sv := sv) (d := d) c2
  refine ⟨h4, ?_, c4, zfx_mono (zfx_tr (zfx_tr f1 f2) f4) (Nat.le_refl _) (Nat.le_refl _) (by omega) (by omega)⟩
  have r1 := zEC1 hc
  have e3 : zrun zP sv (zcall zP sv (d + 48)) 253 46 [.val (.ref m), .val (.ref s), .val (.int (nI bs.length))] [] h2 = some (.inl (some (.int (yaC (yaddF (ysb w bs)).1))), h4) := by
    simp (disch := first | exact znw_u | exact znw_i) only [zs_253_46, zs_253_47, zs_253_50, e4, zbk_v, zts_s, List.cons_append, List.nil_append]
  rw [← e3, ← e2]
  simp (disch := first | exact znw_u | exact znw_i) only [zc_253, zs_253_0, zs_253_1, zs_253_4, zs_253_11, zs_253_12, r1, e1', if_neg hw60, zbk_v, zts_s, List.cons_append, List.nil_append]
theorem zEnd_3 {h1 : zH} {r : zR} {N K N' K' : Nat} {o : zO} {w1 : yW} (f : zfx m (m + 119) N K h h1) (e : zEnd h1 m r N' K' o w1) : zEnd h m r (N + N') (K + K') o w1 := by
  obtain ⟨h2, q, c, f2⟩ := e
  exact ⟨h2, q, c, zfx_tr f f2⟩
theorem y15 : (0 : Int32) + nI 1 + nI 2 + nI 4 + nI 8 = nI 15 := by decide +kernel
theorem y103 : ylet (nI 103) = false := by decide +kernel
/-- two -/
theorem l_260 {t : yT} (hc : zCls h m w) (h0 : (ycur w).1[0]? = some t) : zEnd h m (zcall zP sv (d + 49) 260 [.ref m, .int (nI (ycur w).1.length)] h) 4 24 (.inl (some (.int (nI 1)))) w := by
  have h6 := (zcur_ok hc).1
  have hn : ¬ nI (ycur w).1.length < nI (ycur w).1.length := nI_nlt (Nat.le_refl _) (by omega)
  obtain ⟨h1, e1, c1, f1⟩ := d_45n (sv := sv) (d := d) hc (Or.inr hn)
  obtain ⟨h2, e2, c2, f2⟩ := d_47n (sv := sv) (d := d) (x1 := nI 103) c1 (Or.inr hn)
  have e3' := d_48l (sv := sv) (d := d) (c := nI 103) c2 h0 y103
  rw [nI_0] at e3'
  obtain ⟨h3, e3, c3, f3⟩ := e3'
  obtain ⟨h4, e4, c4, f4⟩ := d_46n (sv := sv) (d := d) (x0 := -1) c3 (Or.inl (by decide))
  refine ⟨h4, ?_, c4, zfx_mono (zfx_tr (zfx_tr (zfx_tr f1 f2) f3) f4) (Nat.le_refl _) (Nat.le_refl _) (by omega) (by omega)⟩
  have r0 := zEC1 hc
  have r1 := zEC1 c1
  have r2 := zEC1 c2
  have r3 := zEC1 c3
  simp (disch := first | exact znw_u | exact znw_i) only [zc_260, zs_260_0, zs_260_1, zs_260_2, zs_260_3, zs_260_3n, zs_260_4, zs_260_5, zs_260_8, zs_260_9, zs_260_10, zs_260_14, zs_260_17, zs_260_18, zs_260_20, zs_260_20n, zs_260_21, zs_260_22, zs_260_24, zs_260_27, zs_260_28, zs_260_29, zs_260_30, zs_260_34, zs_260_37, zs_260_41, zs_260_44, zs_260_45, zs_260_47, zs_260_47n, zs_260_48, zs_260_49, zs_260_51, zs_260_54, zs_260_55, zs_260_56, zs_260_57, zs_260_61, zs_260_64, zs_260_65, zs_260_68, zs_260_68n, zs_260_69, zs_260_70, zs_260_73, zs_260_74, zs_260_75, zs_260_76, zs_260_80, zs_260_83, zs_260_84, zs_260_86, zs_260_89, zs_260_90, zs_260_93, zs_260_94, zh_260_5_2, zh_260_24_2, zh_260_24_1, zh_260_51_1, zh_260_70_2, zh_260_5_2, zh_260_24_2, zh_260_51_1, zh_260_70_2, r0, e1, r1, e2, r2, e3, r3, e4, if_pos y15, zty_51, zgd_t, zbk_x, zts_s, List.cons_append, List.nil_append]
/-- no code without a store where more registers are needed -/
theorem ycs_st {p q : List yI} {x y z u : Int32} : ¬ ycs (p ++ ((nI 115, x, y, z, u) :: q)) = 0 := by
  have e : List.countP (fun i : yI => decide (i.1 = nI 115)) ((nI 115, x, y, z, u) :: q) = List.countP (fun i : yI => decide (i.1 = nI 115)) q + 1 := List.countP_cons_of_pos (decide_eq_true rfl)
  rw [ycs_app]
  unfold ycs
  rw [e]
  omega
theorem yco_sp {M b : Nat} (hb : b < M) (hM : M ≤ 4) (t : yT) (ht : ytw t = true) : ∀ j, ysz t ≤ 31 → ycs (yco M t b j) = 0 → ∃ n, yfo yfD t = nI n ∧ n ≤ M - b := by
  refine ytw_ind (P := fun t => ∀ j, ysz t ≤ 31 → ycs (yco M t b j) = 0 → ∃ n, yfo yfD t = nI n ∧ n ≤ M - b) ?_ ?_ ?_ ?_ t ht
  · intro n v j _ _
    refine ⟨1, ?_, by omega⟩
    show yfD (nI 99) v 0 0 = nI 1
    rw [yfD_e, if_neg (by decide +kernel), if_neg (by decide +kernel)]
  · intro n v _ j _ _
    refine ⟨1, ?_, by omega⟩
    show yfD (nI 118) v 0 0 = nI 1
    rw [yfD_e, if_neg (by decide +kernel), if_neg (by decide +kernel)]
  · intro n l hl ih j hs hq
    have hs' : ysz l + 0 + 1 ≤ 31 := hs
    have e : yco M (.inner n (nI 110) 0 l .leaf) b j = yco M l b j ++ [(nI 110, nI b, 0, nI b, -1)] := by
      conv => lhs; unfold yco
      rw [if_neg (by decide +kernel), if_pos rfl]
    rw [e, ycs_1 (show ¬ nI 110 = nI 115 by decide +kernel)] at hq
    obtain ⟨x, x1, x2⟩ := ih j (by omega) hq
    refine ⟨x, ?_, x2⟩
    show yfD (nI 110) 0 (yfo yfD l) 0 = nI x
    rw [yfD_e, if_neg (by decide +kernel), if_pos rfl]
    exact x1
  · intro n k l r hk hl hr ihl ihr j hs hq
    have hs' : ysz l + ysz r + 1 ≤ 31 := hs
    obtain ⟨x, x0, x1, x2⟩ := yfD_n l hl (by omega)
    obtain ⟨y, y0, y1, y2⟩ := yfD_n r hr (by omega)
    have k1 : ¬ (k = nI 99 ∨ k = nI 118) ∧ ¬ k = nI 110 ∧ yis k = true ∧ ¬ k = nI 115 := by
      rcases hk with rfl | rfl | rfl
      · decide +kernel
      · decide +kernel
      · decide +kernel
    have eN : yfo yfD (.inner n k 0 l r) = if nI x = nI y then nI x + nI 1 else ymx (nI x) (nI y) := by
      show yfD k 0 (yfo yfD l) (yfo yfD r) = _
      rw [yfD_e, if_pos k1.2.2.1, x2, y2]
    have eMb : nI M - nI b = nI (M - b) := nI_subn (by omega)
    have hq' := hq
    unfold yco at hq'
    rw [if_neg k1.1, if_neg k1.2.1, x2, y2, eMb] at hq'
    by_cases c : x < y
    · rw [if_pos (nI_lt c (by omega))] at hq'
      by_cases c2 : nI x < nI (M - b)
      · rw [if_pos c2, ycs_app] at hq'
        obtain ⟨y', q1, q2⟩ := ihr j (by omega) (by omega)
        have : y = y' := (nI_eq (by omega) (by omega)).mp (y2.symm.trans q1)
        refine ⟨y, ?_, by omega⟩
        rw [eN, if_neg (fun q => by have := (nI_eq (by omega) (by omega)).mp q; omega)]
        unfold ymx
        rw [if_pos (nI_lt c (by omega))]
      · rw [if_neg c2] at hq'
        exact absurd hq' ycs_st
    · rw [if_neg (nI_nlt (by omega) (by omega))] at hq'
      by_cases c2 : nI y < nI (M - b)
      · rw [if_pos c2, ycs_app] at hq'
        obtain ⟨x', q1, q2⟩ := ihl j (by omega) (by omega)
        have hx' : x = x' := (nI_eq (by omega) (by omega)).mp (x2.symm.trans q1)
        have hy' : y < M - b := by
          by_cases q : y < M - b
          · exact q
          · exact absurd c2 (nI_nlt (by omega) (by omega))
        by_cases c3 : x = y
        · refine ⟨x + 1, ?_, by omega⟩
          rw [eN, if_pos (by rw [c3]), nI_p1]
        · refine ⟨x, ?_, by omega⟩
          rw [eN, if_neg (fun q => c3 ((nI_eq (by omega) (by omega)).mp q))]
          unfold ymx
          rw [if_neg (nI_nlt (by omega) (by omega))]
      · rw [if_neg c2] at hq'
        exact absurd hq' ycs_st
theorem ylr_s {t : yT} {k n : Nat} : ylr t k (n + 1) = if ycs (yco k t 0 0) = 0 then some k else ylr t (k + 1) n := rfl
theorem ylr_no {t : yT} (tk : ytok t) (hn : ¬ yfo yfD t < nI 5) : ylr t 1 4 = none := by
  have z : ∀ k, 1 ≤ k → k ≤ 4 → ¬ ycs (yco k t 0 0) = 0 := fun k h1 h4 q => by
    obtain ⟨n, e, hl⟩ := yco_sp (M := k) (b := 0) (by omega) h4 t tk.1 0 tk.2.1 q
    rw [e] at hn
    exact hn (nI_lt (by omega) (by decide))
  exact (ylr_s (k := 1) (n := 3)).trans ((if_neg (z 1 (by omega) (by omega))).trans ((ylr_s (k := 2) (n := 2)).trans ((if_neg (z 2 (by omega) (by omega))).trans ((ylr_s (k := 3) (n := 1)).trans ((if_neg (z 3 (by omega) (by omega))).trans ((ylr_s (k := 4) (n := 0)).trans (if_neg (z 4 (by omega) (by omega)))))))))
/-- a formula put into itself -/
theorem yins_sz {c : Int32} {t : yT} (ht : ytw t = true) : ysz (yins c t t) = ysz t + yoc c (ypo 0 t) * (ysz t - 1) := by
  have h1 := ytw_sz ht
  rw [ysz_yins (n := ysz t - 1) ht (by omega), yoc_ct]
end ZAK

section ZAQ
variable {sv : Nat → Value} {d : Nat} {h : zH} {m b : Nat} {xs : List Int32} {w : yW}
/-- the law's own cells below m: script, digits, texts -/
def zBs (sv : Nat → Value) (h : zH) (m b : Nat) (xs : List Int32) : Prop := (b < m ∧ h.1 b = (28, xs.map Value.int)) ∧ (∃ a1 a2 : Nat, sv 1 = .ref a1 ∧ sv 2 = .ref a2 ∧ h.1 a1 = (27, zdg_1.map Value.int) ∧ h.1 a2 = (27, zdg_2.map Value.int) ∧ a1 < m ∧ a2 < m) ∧ ∀ i, i < 11 → ∃ s a : Nat, sv (4 + i) = .ref s ∧ h.1 s = (19, [.ref a, .int 0]) ∧ h.1 a = (27, (zbyt.getD i []).map Value.int) ∧ s < m ∧ a < m
theorem zBs_q {m' : Nat} {h' : zH} (hB : zBs sv h m b xs) (hf : ∀ q, q < m → h'.1 q = h.1 q) (hm : m ≤ m') : zBs sv h' m' b xs := by
  obtain ⟨⟨b1, b2⟩, ⟨a1, a2, s1, s2, g1, g2, l1, l2⟩, K⟩ := hB
  refine ⟨⟨by omega, by rw [hf b b1, b2]⟩, ⟨a1, a2, s1, s2, by rw [hf a1 l1, g1], by rw [hf a2 l2, g2], by omega, by omega⟩, fun i hi => ?_⟩
  obtain ⟨s, a, k1, k2, k3, k4, k5⟩ := K i hi
  exact ⟨s, a, k1, by rw [hf s k4, k2], by rw [hf a k5, k3], by omega, by omega⟩
theorem zBs_D (hB : zBs sv h m b xs) (hm : m ≤ h.2.1) : zDg sv h := by
  obtain ⟨_, ⟨a1, a2, s1, s2, g1, g2, l1, l2⟩, _⟩ := hB
  exact ⟨a1, a2, s1, s2, g1, g2, by omega, by omega⟩
theorem zBs_K (hB : zBs sv h m b xs) (hm : m ≤ h.2.1) : zKs sv h := fun i hi => by
  obtain ⟨s, a, k1, k2, k3, k4, k5⟩ := hB.2.2 i hi
  exact ⟨s, a, k1, k2, k3, by omega, by omega⟩
theorem zBs_f {N K : Nat} {h' : zH} (hB : zBs sv h m b xs) (hm : m ≤ h.2.1) (f : zfy m N K h h') : zBs sv h' m b xs := zBs_q hB (fun q hq => f.1 q (Or.inl hq) (by omega)) (Nat.le_refl _)
theorem zCls_m (hc : zCls h m w) : m ≤ h.2.1 := by have := hc.1; omega
/-- what the law asks, as a function of the state -/
def yD2l (x : UInt64) : Int64 := if Op.cmpValue (FP.dcmp x x) .l = 0 then x.toInt64 else 9221120237041090560
def yhs (s : Int64) (x : Int32) : Int64 := 31 * s + x.toInt64
theorem yhs_f {s : Int64} {x : Int32} : 31 * s + x.toInt64 = yhs s x := rfl
def yMn (A : yA) : UInt64 := if A.1.length = 0 then 13875388141788987392 else FP.ddiv (FP.i2d (nI (ysu' A.1 A.1.length))) (FP.i2d (nI A.1.length))
def yBz (A : yA) (k : Nat) : Int32 := match yrk A.1 (nI k) 0 A.1.length with
  | some c => nI c
  | none => -1001
def yls (q : List yI) : yI := q.getD (q.length - 1) (0, 0, 0, 0, 0)
def yfv (T : List Int32) : Nat → Nat → Int64 → Int64
  | 0, _, s => s
  | n + 1, k, s => yfv T n (k + 1) (yhs s (yg T (nI k)))
def yfc (o : List Int32) : Nat → Nat → Int64 → Int64
  | 0, _, s => s
  | n + 1, k, s => yfc o n (k + 1) (yhs s (ycr (o.getD k 0)))
def yfn (A : yA) (M k : Nat) (t : yT) (s : Int64) : Int64 := yhs (yhs (yhs (yhs (yhs (yhs (yhs (yhs s (nI (ysz t))) (nI (ydp t))) (yfo (yfR A.2.1) t)) (nI (yrc ((ytp t).map ypr)))) (yfo yfD t)) (yBz A k)) (nI (ycs (yco M t 0 0)))) (ysl2 A.2.1 (nI 98) t)
def yfb (A : yA) (M k : Nat) (t : yT) (s : Int64) : Int64 := yfc (ywi (yls (yco M t 0 0))) (ywi (yls (yco M t 0 0))).length 0 (yfc (ywf8 t) (ywf8 t).length 0 (yfn A M k t s))
def yff (A : yA) (M : Nat) : Nat → Nat → Int64 → Int64
  | 0, _, s => s
  | n + 1, k, s => yff A M n (k + 1) (yfb A M k (A.1.getD k .leaf) s)
def yask (A : yA) : Int64 := yff A A.2.2.1.toNatClampNeg A.1.length 0 (yfv A.2.1 6 0 (yhs (yhs (yhs (yD2l (yMn A)) A.2.2.1) (nI A.1.length)) A.2.2.2))
theorem s_213 {x : UInt64} : zcall zP sv (d + 2) 213 [.double x] h = some (.inl (some (.long (yD2l x))), h) := by
  by_cases c : Op.cmpValue (FP.dcmp x x) .l = 0
  · have e : zcall zP sv (d + 1) 214 [.double x] h = some (.inl (some (.int 0)), h) := by
      simp only [zc_214, zs_214_0, zs_214_1, zs_214_2, zs_214_3, zs_214_6, zs_214_7, zs_214_10, zs_214_11, if_pos c, zty_50, zgd_t]
    have e2 : yD2l x = x.toInt64 := if_pos c
    rw [e2]
    simp (disch := first | exact znw_u | exact znw_i) only [zc_213, zs_213_0, zs_213_1, zs_213_4, zs_213_7, zs_213_8, zs_213_11, zs_213_12, zs_213_15, e, zbk_v, zts_s, ↓reduceIte, List.cons_append, List.nil_append]
  · have e : zcall zP sv (d + 1) 214 [.double x] h = some (.inl (some (.int (nI 1))), h) := by
      simp only [zc_214, zs_214_0, zs_214_1, zs_214_2, zs_214_3, zs_214_6, zs_214_7, zs_214_10, zs_214_11, if_neg c, zty_51, zgd_t]
    have e2 : yD2l x = 9221120237041090560 := if_neg c
    rw [e2]
    simp (disch := first | exact znw_u | exact znw_i) only [zc_213, zs_213_0, zs_213_1, zs_213_4, zs_213_7, zs_213_8, zs_213_11, zs_213_12, zs_213_15, e, nI_1e0, zbk_v, zts_s, ↓reduceIte, List.cons_append, List.nil_append]
theorem h_247 (hc : zCls h m w) : zEnd h m (zcall zP sv (d + 49) 247 [.ref m] h) 1 6 (.inl (some (.double (yMn (ycur w))))) w := by
  by_cases c : (ycur w).1.length = 0
  · have e : yMn (ycur w) = 13875388141788987392 := if_pos c
    rw [e]
    exact h_247e5 hc (d_62n (d := d) hc c)
  · have e : yMn (ycur w) = FP.ddiv (FP.i2d (nI (ysu' (ycur w).1 (ycur w).1.length))) (FP.i2d (nI (ycur w).1.length)) := if_neg c
    rw [e]
    obtain ⟨h', q, c1, f⟩ := h_247v hc (d_62 (d := d) hc (by omega))
    exact ⟨h', q, c1, zfx_mono f (Nat.le_refl _) (Nat.le_refl _) (by omega) (by omega)⟩
theorem h_246 {k : Nat} (hc : zCls h m w) : zEnd h m (zcall zP sv (d + 49) 246 [.ref m, .int (nI k)] h) 1 6 (.inl (some (.int (yBz (ycur w) k)))) w := by
  rcases hq : yrk (ycur w).1 (nI k) 0 (ycur w).1.length with _ | c
  · have e : yBz (ycur w) k = -1001 := by unfold yBz; rw [hq]
    rw [e]
    exact h_246e4 hc (d_60n (d := d) hc hq)
  · have e : yBz (ycur w) k = nI c := by unfold yBz; rw [hq]
    rw [e]
    obtain ⟨h', q, c1, f⟩ := h_246v hc (d_60k (d := d) hc hq)
    exact ⟨h', q, c1, zfx_mono f (Nat.le_refl _) (Nat.le_refl _) (by omega) (by omega)⟩
theorem zCls_ol (hc : zCls h m w) : (yout w).length ≤ 1000 := by
  obtain ⟨v, B, hb, _⟩ := zCls_bl hc
  have h1 := hb.2.2.2.1
  have h2 := hb.2.2.2.2.2.1
  omega
theorem ask_v {x1 : Int32} : ∀ n k (s : Int64) (h : zH), k + n = 6 → zCls h m w → ∃ h', zrun zP sv (zcall zP sv (d + 49)) 257 45 [.val (.ref m), .val (.int x1), .val (.long s), .second, .val (.int (nI k)), .unset, .unset] [] h = zrun zP sv (zcall zP sv (d + 49)) 257 76 [.val (.ref m), .val (.int x1), .val (.long (yfv (ycur w).2.1 n k s)), .second, .val (.int (nI 6)), .unset, .unset] [] h' ∧ zCls h' m w ∧ zfx m (m + 119) 0 0 h h' := by
  intro n
  induction n with
  | zero =>
    intro k s h hk hc
    obtain rfl : k = 6 := by omega
    have c : ¬ nI 6 < nI 6 := nI_nlt (Nat.le_refl _) (by decide)
    refine ⟨h, ?_, hc, zfx_rfl⟩
    simp (disch := first | exact znw_u | exact znw_i) only [zs_257_45, zs_257_47, zs_257_49, if_neg c, yfv]
  | succ n ih =>
    intro k s h hk hc
    have c : nI k < nI 6 := nI_lt (by omega) (by decide)
    have ec := ytx_c k (by omega)
    obtain ⟨h1, e1, c1, f1⟩ := h_224v hc (d_34 (sv := sv) (d := d) (c := nI (97 + k)) hc (ytx_l k (by omega)).2.2)
    rw [nI_sub'] at e1
    obtain ⟨h2, e2, c2, f2⟩ := ih (k + 1) (yhs s (yg (ycur w).2.1 (nI k))) h1 (by omega) c1
    refine ⟨h2, ?_, c2, zfx_tr f1 f2⟩
    show _ = zrun zP sv (zcall zP sv (d + 49)) 257 76 [.val (.ref m), .val (.int x1), .val (.long (yfv (ycur w).2.1 n (k + 1) (yhs s (yg (ycur w).2.1 (nI k))))), .second, .val (.int (nI 6)), .unset, .unset] [] h2
    rw [← e2]
    rw [zs_257_45, zs_257_47, zs_257_49, if_pos c]
    simp (disch := first | exact znw_u | exact znw_i) only [zs_257_0, zs_257_0n, zs_257_1, zs_257_4, zs_257_5, zs_257_8, zs_257_8n, zs_257_9, zs_257_12, zs_257_15, zs_257_16, zs_257_16n, zs_257_17, zs_257_20, zs_257_21, zs_257_22, zs_257_22s, zs_257_23, zs_257_26, zs_257_29, zs_257_30, zs_257_31, zs_257_32, zs_257_33, zs_257_34, zs_257_35, zs_257_35n, zs_257_36, zs_257_39, zs_257_40, zs_257_41, zs_257_41s, zs_257_42, zs_257_43, zs_257_47, zs_257_49, zs_257_52, zs_257_55, zs_257_56, zs_257_57, zs_257_57n, zs_257_58, zs_257_60, zs_257_62, zs_257_63, zs_257_64, zs_257_67, zs_257_68, zs_257_69, zs_257_69s, zs_257_70, zs_257_73, zs_257_77, zs_257_79, zs_257_81, zs_257_82, zs_257_85, zs_257_88, zs_257_91, zs_257_94, zs_257_97, zs_257_98, zs_257_99, zs_257_99n, zs_257_100, zs_257_102, zs_257_105, zs_257_106, zs_257_107, zs_257_108, zs_257_108n, zs_257_109, zs_257_111, zs_257_114, zs_257_115, zs_257_116, zs_257_117, zs_257_117n, zs_257_118, zs_257_120, zs_257_123, zs_257_124, zs_257_125, zs_257_126, zs_257_126n, zs_257_127, zs_257_129, zs_257_132, zs_257_133, zs_257_134, zs_257_134s, zs_257_135, zs_257_138, zs_257_141, zs_257_144, zs_257_147, zs_257_148, zs_257_149, zs_257_149n, zs_257_150, zs_257_152, zs_257_155, zs_257_156, zs_257_157, zs_257_158, zs_257_158n, zs_257_159, zs_257_161, zs_257_164, zs_257_165, zs_257_166, zs_257_167, zs_257_167n, zs_257_168, zs_257_170, zs_257_173, zs_257_174, zs_257_175, zs_257_176, zs_257_176n, zs_257_177, zs_257_179, zs_257_181, zs_257_184, zs_257_185, zs_257_186, zs_257_186s, zs_257_187, zs_257_187n, zs_257_188, zs_257_190, zs_257_193, zs_257_195, zs_257_196, zs_257_198, zs_257_200, zs_257_202, zs_257_205, zs_257_208, zs_257_209, zs_257_210, zs_257_210n, zs_257_211, zs_257_213, zs_257_216, zs_257_217, zs_257_218, zs_257_218s, zs_257_219, zs_257_222, zs_257_225, zs_257_225n, zs_257_226, zs_257_228, zs_257_228n, zs_257_229, zs_257_231, zs_257_234, zs_257_235, zs_257_236, zs_257_239, zs_257_241, zs_257_242, zs_257_244, zs_257_246, zs_257_248, zs_257_251, zs_257_254, zs_257_255, zs_257_256, zs_257_256n, zs_257_257, zs_257_259, zs_257_262, zs_257_263, zs_257_264, zs_257_264s, zs_257_265, zs_257_268, zs_257_271, zs_257_274, zs_257_277, zs_257_278, ec, e1, nI_p1, yhs_f, zbk_v, zts_s, List.cons_append, List.nil_append]
theorem ask_o1 {x1 x4 : Int32} {o : List Int32} (h3 : zty 4 (sv 3) = true) : ∀ n i (s : Int64) (h : zH) (l6 : Slot), i + n = o.length → zCls h m (yso w o) → ∃ h', zrun zP sv (zcall zP sv (d + 49)) 257 198 [.val (.ref m), .val (.int x1), .val (.long s), .second, .val (.int x4), .val (.int (nI o.length)), .val (.int (nI i))] [] h = zrun zP sv (zcall zP sv (d + 49)) 257 225 [.val (.ref m), .val (.int x1), .val (.long (yfc o n i s)), .second, .val (.int x4), .val (.int (nI o.length)), .val (.int (nI o.length))] [] h' ∧ zCls h' m (yso w o) ∧ zfx m (m + 119) 0 0 h h' := by
  intro n
  induction n with
  | zero =>
    intro i s h l6 hi hc
    have hol : o.length ≤ 1000 := zCls_ol hc
    obtain rfl : i = o.length := by omega
    have c : ¬ nI o.length < nI o.length := nI_nlt (Nat.le_refl _) (by omega)
    refine ⟨h, ?_, hc, zfx_rfl⟩
    simp (disch := first | exact znw_u | exact znw_i) only [zs_257_198, zs_257_200, zs_257_202, if_neg c, yfc]
  | succ n ih =>
    intro i s h l6 hi hc
    have hol : o.length ≤ 1000 := zCls_ol hc
    have c : nI i < nI o.length := nI_lt (by omega) (by omega)
    obtain ⟨h1, e1, c1, f1⟩ := h_245v hc (d_59 (d := d) h3 hc (show i < o.length by omega))
    have e1' : zcall zP sv (d + 49) 245 [.ref m, .int (nI i)] h = some (.inl (some (.int (ycr (o.getD i 0)))), h1) := e1
    obtain ⟨h2, e2, c2, f2⟩ := ih (i + 1) (yhs s (ycr (o.getD i 0))) h1 l6 (by omega) c1
    refine ⟨h2, ?_, c2, zfx_tr f1 f2⟩
    show _ = zrun zP sv (zcall zP sv (d + 49)) 257 225 [.val (.ref m), .val (.int x1), .val (.long (yfc o n (i + 1) (yhs s (ycr (o.getD i 0))))), .second, .val (.int x4), .val (.int (nI o.length)), .val (.int (nI o.length))] [] h2
    rw [← e2]
    simp (disch := first | exact znw_u | exact znw_i) only [zs_257_198, zs_257_200, zs_257_202, zs_257_205, zs_257_208, zs_257_209, zs_257_210, zs_257_211, zs_257_213, zs_257_216, zs_257_217, zs_257_218s, zs_257_219, zs_257_222, if_pos c, e1', nI_p1, yhs_f, zbk_v, zts_s, List.cons_append, List.nil_append]
theorem ask_o2 {x1 x4 : Int32} {o : List Int32} (h3 : zty 4 (sv 3) = true) : ∀ n i (s : Int64) (h : zH) (l6 : Slot), i + n = o.length → zCls h m (yso w o) → ∃ h', zrun zP sv (zcall zP sv (d + 49)) 257 244 [.val (.ref m), .val (.int x1), .val (.long s), .second, .val (.int x4), .val (.int (nI o.length)), .val (.int (nI i))] [] h = zrun zP sv (zcall zP sv (d + 49)) 257 271 [.val (.ref m), .val (.int x1), .val (.long (yfc o n i s)), .second, .val (.int x4), .val (.int (nI o.length)), .val (.int (nI o.length))] [] h' ∧ zCls h' m (yso w o) ∧ zfx m (m + 119) 0 0 h h' := by
  intro n
  induction n with
  | zero =>
    intro i s h l6 hi hc
    have hol : o.length ≤ 1000 := zCls_ol hc
    obtain rfl : i = o.length := by omega
    have c : ¬ nI o.length < nI o.length := nI_nlt (Nat.le_refl _) (by omega)
    refine ⟨h, ?_, hc, zfx_rfl⟩
    simp (disch := first | exact znw_u | exact znw_i) only [zs_257_244, zs_257_246, zs_257_248, if_neg c, yfc]
  | succ n ih =>
    intro i s h l6 hi hc
    have hol : o.length ≤ 1000 := zCls_ol hc
    have c : nI i < nI o.length := nI_lt (by omega) (by omega)
    obtain ⟨h1, e1, c1, f1⟩ := h_245v hc (d_59 (d := d) h3 hc (show i < o.length by omega))
    have e1' : zcall zP sv (d + 49) 245 [.ref m, .int (nI i)] h = some (.inl (some (.int (ycr (o.getD i 0)))), h1) := e1
    obtain ⟨h2, e2, c2, f2⟩ := ih (i + 1) (yhs s (ycr (o.getD i 0))) h1 l6 (by omega) c1
    refine ⟨h2, ?_, c2, zfx_tr f1 f2⟩
    show _ = zrun zP sv (zcall zP sv (d + 49)) 257 271 [.val (.ref m), .val (.int x1), .val (.long (yfc o n (i + 1) (yhs s (ycr (o.getD i 0))))), .second, .val (.int x4), .val (.int (nI o.length)), .val (.int (nI o.length))] [] h2
    rw [← e2]
    simp (disch := first | exact znw_u | exact znw_i) only [zs_257_244, zs_257_246, zs_257_248, zs_257_251, zs_257_254, zs_257_255, zs_257_256, zs_257_257, zs_257_259, zs_257_262, zs_257_263, zs_257_264s, zs_257_265, zs_257_268, if_pos c, e1', nI_p1, yhs_f, zbk_v, zts_s, List.cons_append, List.nil_append]
/-- the numbers of one formula -/
theorem ask_n {k M : Nat} {t : yT} {x1 : Int32} {l5 l6 : Slot} {s : Int64} (hc : zCls h m w) (hi : (ycur w).1[k]? = some t) (hR : (ycur w).2.2.1 = nI M) (h1M : 1 ≤ M) (hM : M ≤ 4) : ∃ h', zrun zP sv (zcall zP sv (d + 49)) 257 85 [.val (.ref m), .val (.int x1), .val (.long s), .second, .val (.int (nI k)), l5, l6] [] h = zrun zP sv (zcall zP sv (d + 49)) 257 187 [.val (.ref m), .val (.int x1), .val (.long (yfn (ycur w) M k t s)), .second, .val (.int (nI k)), l5, l6] [] h' ∧ zCls h' m w ∧ zfx m (m + 119) 1 6 h h' := by
  have tk := (zcur_ok hc).2.1 t (List.mem_of_getElem? hi)
  obtain ⟨h1, e1, c1, f1⟩ := h_226v hc (d_36 (sv := sv) (d := d) hc hi)
  obtain ⟨h2, e2, c2, f2⟩ := h_227v c1 (d_37 (sv := sv) (d := d) c1 hi)
  obtain ⟨h3, e3, c3, f3⟩ := d_45 (sv := sv) (d := d + 1) c2 hi
  have e3' : zcall zP sv (d + 49) 45 [.ref m, .int (nI k)] h2 = _ := e3
  obtain ⟨B0, hB0, z4⟩ := d_42 (sv := sv) (d := d) c3 hi
  rw [yinc_1 tk.1 tk.2.1 hB0] at z4
  obtain ⟨h4, e4, c4, f4⟩ := h_232v c3 z4
  obtain ⟨h5, e5, c5, f5⟩ := h_235v c4 (d_49 (sv := sv) (d := d) c4 hi)
  obtain ⟨h6, e6, c6, f6⟩ := h_246 (sv := sv) (d := d) (k := k) c5
  obtain ⟨h7, e7, c7, f7⟩ := h_238v c6 (d_52 (sv := sv) (d := d) c6 hi hR h1M hM)
  obtain ⟨h8, e8, c8, f8⟩ := d_47 (sv := sv) (d := d + 1) (c := nI 98) c7 hi (by decide +kernel)
  have e8' : zcall zP sv (d + 49) 47 [.ref m, .int (nI k), .int (nI 98)] h7 = _ := e8
  have r2 := zEC1 c2
  have r7 := zEC1 c7
  refine ⟨h8, ?_, c8, zfx_mono (zfx_tr (zfx_tr (zfx_tr (zfx_tr (zfx_tr (zfx_tr (zfx_tr f1 f2) f3) f4) f5) f6) f7) f8) (Nat.le_refl _) (Nat.le_refl _) (by omega) (by omega)⟩
  simp (disch := first | exact znw_u | exact znw_i) only [zs_257_0, zs_257_0n, zs_257_1, zs_257_4, zs_257_5, zs_257_8, zs_257_8n, zs_257_9, zs_257_12, zs_257_15, zs_257_16, zs_257_16n, zs_257_17, zs_257_20, zs_257_21, zs_257_22, zs_257_22s, zs_257_23, zs_257_26, zs_257_29, zs_257_30, zs_257_31, zs_257_32, zs_257_33, zs_257_34, zs_257_35, zs_257_35n, zs_257_36, zs_257_39, zs_257_40, zs_257_41, zs_257_41s, zs_257_42, zs_257_43, zs_257_47, zs_257_49, zs_257_52, zs_257_55, zs_257_56, zs_257_57, zs_257_57n, zs_257_58, zs_257_60, zs_257_62, zs_257_63, zs_257_64, zs_257_67, zs_257_68, zs_257_69, zs_257_69s, zs_257_70, zs_257_73, zs_257_76, zs_257_77, zs_257_81, zs_257_82, zs_257_85, zs_257_88, zs_257_91, zs_257_94, zs_257_97, zs_257_98, zs_257_99, zs_257_99n, zs_257_100, zs_257_102, zs_257_105, zs_257_106, zs_257_107, zs_257_108, zs_257_108n, zs_257_109, zs_257_111, zs_257_114, zs_257_115, zs_257_116, zs_257_117, zs_257_117n, zs_257_118, zs_257_120, zs_257_123, zs_257_124, zs_257_125, zs_257_126, zs_257_126n, zs_257_127, zs_257_129, zs_257_132, zs_257_133, zs_257_134, zs_257_134s, zs_257_135, zs_257_138, zs_257_141, zs_257_144, zs_257_147, zs_257_148, zs_257_149, zs_257_149n, zs_257_150, zs_257_152, zs_257_155, zs_257_156, zs_257_157, zs_257_158, zs_257_158n, zs_257_159, zs_257_161, zs_257_164, zs_257_165, zs_257_166, zs_257_167, zs_257_167n, zs_257_168, zs_257_170, zs_257_173, zs_257_174, zs_257_175, zs_257_176, zs_257_176n, zs_257_177, zs_257_179, zs_257_181, zs_257_184, zs_257_185, zs_257_186, zs_257_186s, zs_257_188, zs_257_190, zs_257_193, zs_257_195, zs_257_196, zs_257_200, zs_257_202, zs_257_205, zs_257_208, zs_257_209, zs_257_210, zs_257_210n, zs_257_211, zs_257_213, zs_257_216, zs_257_217, zs_257_218, zs_257_218s, zs_257_219, zs_257_222, zs_257_225, zs_257_225n, zs_257_226, zs_257_228, zs_257_228n, zs_257_229, zs_257_231, zs_257_234, zs_257_235, zs_257_236, zs_257_239, zs_257_241, zs_257_242, zs_257_246, zs_257_248, zs_257_251, zs_257_254, zs_257_255, zs_257_256, zs_257_256n, zs_257_257, zs_257_259, zs_257_262, zs_257_263, zs_257_264, zs_257_264s, zs_257_265, zs_257_268, zs_257_271, zs_257_274, zs_257_277, zs_257_278, e1, e2, r2, e3', e4, e5, e6, e7, r7, e8', yhs_f, yfn, zbk_v, zts_s, List.cons_append, List.nil_append]
theorem yls_at {q : List yI} (h : 1 ≤ q.length) : q[q.length - 1]? = some (yls q) := by
  unfold yls
  rw [List.getD_eq_getElem?_getD, List.getElem?_eq_getElem (by omega)]
  rfl
theorem ywq_le (x : Int32) : (ywq x).length ≤ 12 := ywp_le _
theorem ywi_le (x : yI) : (ywi x).length ≤ 60 := by
  have q1 := ywq_le (nI 4 + x.2.2.1)
  have q2 := ywq_le x.2.1
  have q3 := yits_le x.2.2.1
  have q4 := ywq_le x.2.2.2.1
  have q5 := ywq_le x.2.2.2.2
  unfold ywi
  rw [List.length_append, List.length_append]
  have a : (if x.1 = nI 115 then ywq (nI 4 + x.2.2.1) else ywq x.2.1).length ≤ 12 := by
    split
    · exact q1
    · exact q2
  have b : (if x.1 = nI 99 then yits x.2.2.1 else if x.1 = nI 118 then [x.2.2.1] else if x.1 = nI 115 then ywq x.2.2.2.1 else if x.1 = nI 110 then [nI 45] ++ ywq x.2.2.2.1 else ywq x.2.2.2.1 ++ ([x.1] ++ ywq x.2.2.2.2)).length ≤ 26 := by
    split
    · omega
    · split
      · show 1 ≤ 26
        decide
      · split
        · omega
        · split
          · rw [List.length_append]
            show 1 + _ ≤ 26
            omega
          · rw [List.length_append, List.length_append]
            show _ + (1 + _) ≤ 26
            omega
  show _ + (1 + _) ≤ 60
  omega
/-- one formula -/
theorem ask_b {k M : Nat} {t : yT} {x1 : Int32} {l5 l6 : Slot} {s : Int64} (hz : sv 0 = .int (nI 1)) (h3 : zty 4 (sv 3) = true) (hB : zBs sv h m b xs) (w5 : znw l5 = true) (w6 : znw l6 = true) (hc : zCls h m w) (hi : (ycur w).1[k]? = some t) (hR : (ycur w).2.2.1 = nI M) (h1M : 1 ≤ M) (hM : M ≤ 4) : ∃ h' o, zrun zP sv (zcall zP sv (d + 49)) 257 85 [.val (.ref m), .val (.int x1), .val (.long s), .second, .val (.int (nI k)), l5, l6] [] h = zrun zP sv (zcall zP sv (d + 49)) 257 271 [.val (.ref m), .val (.int x1), .val (.long (yfb (ycur w) M k t s)), .second, .val (.int (nI k)), .val (.int (nI o.length)), .val (.int (nI o.length))] [] h' ∧ zCls h' m (yso w o) ∧ zfy m 2001 4006 h h' ∧ o.length ≤ 700 := by
  have tk := (zcur_ok hc).2.1 t (List.mem_of_getElem? hi)
  obtain ⟨h1, e1, c1, f1⟩ := ask_n (sv := sv) (d := d) (x1 := x1) (l5 := l5) (l6 := l6) (s := s) hc hi hR h1M hM
  have g1 := zfy_fx f1
  have B1 := zBs_f hB (zCls_m hc) g1
  obtain ⟨h2, e2, c2, g2⟩ := h_244v c1 (d_58 (sv := sv) (d := d) hz (zBs_D B1 (zCls_m c1)) c1 hi)
  obtain ⟨h3', e3, c3, f3⟩ := ask_o1 (sv := sv) (d := d) (x1 := x1) (x4 := nI k) h3 (ywf8 t).length 0 (yfn (ycur w) M k t s) h2 .unset (by omega) c2
  rw [nI_0] at e3
  have B3 := zBs_f (zBs_f B1 (zCls_m c1) g2) (zCls_m c2) (zfy_fx f3)
  have hi3 : (ycur (yso w (ywf8 t))).1[k]? = some t := hi
  obtain ⟨h4, e4, c4, f4⟩ := h_237v c3 (d_51 (sv := sv) (d := d) c3 hi3 hR h1M hM)
  have B4 := zBs_f B3 (zCls_m c3) (zfy_fx f4)
  have h1c : 1 ≤ (yco M t 0 0).length := yco_pos tk.1
  have hls := yls_at h1c
  have el : nI (yco M t 0 0).length - nI 1 = nI ((yco M t 0 0).length - 1) := nI_subn h1c
  obtain ⟨h5, e5, c5, g5⟩ := h_243v c4 (d_57 (sv := sv) (d := d) hz (zBs_D B4 (zCls_m c4)) c4 hi3 hR h1M hM hls)
  have c5' : zCls h5 m (yso w (ywi (yls (yco M t 0 0)))) := c5
  obtain ⟨h6, e6, c6, f6⟩ := ask_o2 (sv := sv) (d := d) (x1 := x1) (x4 := nI k) h3 (ywi (yls (yco M t 0 0))).length 0 (yfc (ywf8 t) (ywf8 t).length 0 (yfn (ycur w) M k t s)) h5 .unset (by omega) c5'
  rw [nI_0] at e6
  refine ⟨h6, ywi (yls (yco M t 0 0)), ?_, c6, zfy_mono (zfy_tr (zfy_tr (zfy_tr (zfy_tr (zfy_tr g1 g2) (zfy_fx f3)) (zfy_fx f4)) g5) (zfy_fx f6)) (by omega) (by omega), by have := ywi_le (yls (yco M t 0 0)); omega⟩
  rw [e1]
  unfold yfb
  rw [← e6]
  have q1 : zrun zP sv (zcall zP sv (d + 49)) 257 187 [.val (.ref m), .val (.int x1), .val (.long (yfn (ycur w) M k t s)), .second, .val (.int (nI k)), l5, l6] [] h1 = zrun zP sv (zcall zP sv (d + 49)) 257 198 [.val (.ref m), .val (.int x1), .val (.long (yfn (ycur w) M k t s)), .second, .val (.int (nI k)), .val (.int (nI (ywf8 t).length)), .val (.int 0)] [] h2 := by
    simp (disch := first | exact znw_u | exact znw_i | assumption) only [zs_257_187, zs_257_188, zs_257_190, zs_257_193, zs_257_195, zs_257_196, e2, zbk_v, zts_s, List.cons_append, List.nil_append]
  rw [q1, e3]
  simp (disch := first | exact znw_u | exact znw_i) only [zs_257_225, zs_257_226, zs_257_228, zs_257_229, zs_257_231, zs_257_234, zs_257_235, zs_257_236, zs_257_239, zs_257_241, zs_257_242, e4, el, e5, zbk_v, zts_s, List.cons_append, List.nil_append]
theorem yso_c {o : List Int32} : ycur (yso w o) = ycur w := rfl
/-- all formulas -/
theorem ask_f {M : Nat} (hz : sv 0 = .int (nI 1)) (h3 : zty 4 (sv 3) = true) (hR : (ycur w).2.2.1 = nI M) (h1M : 1 ≤ M) (hM : M ≤ 4) : ∀ n k (s : Int64) (h : zH) (o : List Int32) (l5 l6 : Slot), znw l5 = true → znw l6 = true → k + n = (ycur w).1.length → zBs sv h m b xs → zCls h m (yso w o) → ∃ h' o', zrun zP sv (zcall zP sv (d + 49)) 257 79 [.val (.ref m), .val (.int (nI (ycur w).1.length)), .val (.long s), .second, .val (.int (nI k)), l5, l6] [] h = some (.inl (some (.long (yff (ycur w) M n k s))), h') ∧ zCls h' m (yso w o') ∧ zfy m (2001 * n) (4006 * n) h h' ∧ ((n = 0 ∧ o' = o) ∨ o'.length ≤ 700) := by
  intro n
  induction n with
  | zero =>
    intro k s h o l5 l6 w5 w6 hk hB hc
    have h6 : (ycur w).1.length ≤ 6 := (zcur_ok hc).1
    have c : ¬ nI k < nI (ycur w).1.length := nI_nlt (by omega) (by omega)
    refine ⟨h, o, ?_, hc, zfy_fx zfx_rfl, Or.inl ⟨rfl, rfl⟩⟩
    simp (disch := first | exact znw_u | exact znw_i) only [zs_257_79, zs_257_81, zs_257_82, zs_257_277, zs_257_278, if_neg c, yff]
  | succ n ih =>
    intro k s h o l5 l6 w5 w6 hk hB hc
    have h6 : (ycur w).1.length ≤ 6 := (zcur_ok hc).1
    have c : nI k < nI (ycur w).1.length := nI_lt (by omega) (by omega)
    obtain ⟨t, ht⟩ : ∃ t, (ycur w).1[k]? = some t := ⟨_, List.getElem?_eq_getElem (by omega)⟩
    have et : (ycur w).1.getD k .leaf = t := by rw [List.getD_eq_getElem?_getD, ht]; rfl
    obtain ⟨h1, o1, e1, c1, f1, b1⟩ := ask_b (sv := sv) (d := d) (x1 := nI (ycur w).1.length) (s := s) hz h3 hB w5 w6 hc (show (ycur (yso w o)).1[k]? = some t from ht) hR h1M hM
    obtain ⟨h2, o2, e2, c2, f2, b2⟩ := ih (k + 1) (yfb (ycur w) M k t s) h1 o1 (.val (.int (nI o1.length))) (.val (.int (nI o1.length))) rfl rfl (by omega) (zBs_f hB (zCls_m hc) f1) c1
    refine ⟨h2, o2, ?_, c2, zfy_mono (zfy_tr f1 f2) (by omega) (by omega), Or.inr (b2.elim (fun q => by rw [q.2]; exact b1) id)⟩
    have eu : yff (ycur w) M (n + 1) k s = yff (ycur w) M n (k + 1) (yfb (ycur w) M k t s) := by
      rw [← et]
      rfl
    rw [eu, ← e2]
    have e1' : zrun zP sv (zcall zP sv (d + 49)) 257 85 [.val (.ref m), .val (.int (nI (ycur w).1.length)), .val (.long s), .second, .val (.int (nI k)), l5, l6] [] h = zrun zP sv (zcall zP sv (d + 49)) 257 271 [.val (.ref m), .val (.int (nI (ycur w).1.length)), .val (.long (yfb (ycur w) M k t s)), .second, .val (.int (nI k)), .val (.int (nI o1.length)), .val (.int (nI o1.length))] [] h1 := e1
    simp (disch := first | exact znw_u | exact znw_i) only [zs_257_79, zs_257_81, zs_257_82, if_pos c, e1', zs_257_271, zs_257_274, nI_p1]
/-- asks -/
theorem l_257 (hz : sv 0 = .int (nI 1)) (h3 : zty 4 (sv 3) = true) (hB : zBs sv h m b xs) (hc : zCls h m w) (hk : yRg (ycur w)) : ∃ h' o, zcall zP sv (d + 50) 257 [.ref m] h = some (.inl (some (.long (yask (ycur w)))), h') ∧ zCls h' m (yso w o) ∧ zfy m 12100 24100 h h' ∧ (1 ≤ (ycur w).1.length → o.length ≤ 700) := by
  obtain ⟨M, h1M, hM, hR⟩ := hk
  have eM : (ycur w).2.2.1.toNatClampNeg = M := by rw [hR, nI_clamp (by omega)]
  have h6 : (ycur w).1.length ≤ 6 := (zcur_ok hc).1
  obtain ⟨h1, e1, c1, f1⟩ := d_33 (sv := sv) (d := d + 1) hc
  have e1' : zcall zP sv (d + 49) 33 [.ref m] h = _ := e1
  obtain ⟨h2, e2, c2, f2⟩ := h_247 (sv := sv) (d := d) c1
  have e2' : zcall zP sv (d + 49) 213 [.double (yMn (ycur w))] h2 = _ := s_213 (d := d + 47)
  obtain ⟨h3', e3, c3, f3⟩ := d_35 (sv := sv) (d := d + 1) c2
  have e3' : zcall zP sv (d + 49) 35 [.ref m] h2 = _ := e3
  obtain ⟨h4, e4, c4, f4⟩ := d_61 (sv := sv) (d := d + 1) c3
  have e4' : zcall zP sv (d + 49) 61 [.ref m] h3' = _ := e4
  obtain ⟨h5, e5, c5, f5⟩ := ask_v (sv := sv) (d := d) (x1 := nI (ycur w).1.length) 6 0 (yhs (yhs (yhs (yD2l (yMn (ycur w))) (ycur w).2.2.1) (nI (ycur w).1.length)) (ycur w).2.2.2) h4 rfl c4
  rw [nI_0] at e5
  have F := zfx_tr (zfx_tr (zfx_tr (zfx_tr f1 f2) f3) f4) f5
  have c5' : zCls h5 m (yso w (yout w)) := c5
  obtain ⟨h6', o, e6, c6, f6, b6⟩ := ask_f (sv := sv) (d := d) (w := w) hz h3 hR h1M hM (ycur w).1.length 0 (yfv (ycur w).2.1 6 0 (yhs (yhs (yhs (yD2l (yMn (ycur w))) (ycur w).2.2.1) (nI (ycur w).1.length)) (ycur w).2.2.2)) h5 (yout w) .unset .unset rfl rfl (by omega) (zBs_f hB (zCls_m hc) (zfy_fx F)) c5'
  rw [nI_0] at e6
  refine ⟨h6', o, ?_, c6, zfy_mono (zfy_tr (zfy_fx F) f6) (by omega) (by omega), fun q => b6.elim (fun z => absurd z.1 (by omega)) id⟩
  have r0 := zEC1 hc
  have r2 := zEC1 c2
  have r3 := zEC1 c3
  unfold yask
  rw [eM, ← e6]
  have q : zcall zP sv (d + 50) 257 [.ref m] h = zrun zP sv (zcall zP sv (d + 49)) 257 45 [.val (.ref m), .val (.int (nI (ycur w).1.length)), .val (.long (yhs (yhs (yhs (yD2l (yMn (ycur w))) (ycur w).2.2.1) (nI (ycur w).1.length)) (ycur w).2.2.2)), .second, .val (.int 0), .unset, .unset] [] h4 := by
    simp (disch := first | exact znw_u | exact znw_i) only [zc_257, zs_257_0, zs_257_0n, zs_257_1, zs_257_4, zs_257_5, zs_257_8, zs_257_8n, zs_257_9, zs_257_12, zs_257_15, zs_257_16, zs_257_16n, zs_257_17, zs_257_20, zs_257_21, zs_257_22, zs_257_22s, zs_257_23, zs_257_26, zs_257_29, zs_257_30, zs_257_31, zs_257_32, zs_257_33, zs_257_34, zs_257_35, zs_257_35n, zs_257_36, zs_257_39, zs_257_40, zs_257_41, zs_257_41s, zs_257_42, zs_257_43, zs_257_47, zs_257_49, zs_257_52, zs_257_55, zs_257_56, zs_257_57, zs_257_57n, zs_257_58, zs_257_60, zs_257_62, zs_257_63, zs_257_64, zs_257_67, zs_257_68, zs_257_69, zs_257_69s, zs_257_70, zs_257_73, zs_257_76, zs_257_77, zs_257_79, zs_257_81, zs_257_82, zs_257_85, zs_257_88, zs_257_91, zs_257_94, zs_257_97, zs_257_98, zs_257_99, zs_257_99n, zs_257_100, zs_257_102, zs_257_105, zs_257_106, zs_257_107, zs_257_108, zs_257_108n, zs_257_109, zs_257_111, zs_257_114, zs_257_115, zs_257_116, zs_257_117, zs_257_117n, zs_257_118, zs_257_120, zs_257_123, zs_257_124, zs_257_125, zs_257_126, zs_257_126n, zs_257_127, zs_257_129, zs_257_132, zs_257_133, zs_257_134, zs_257_134s, zs_257_135, zs_257_138, zs_257_141, zs_257_144, zs_257_147, zs_257_148, zs_257_149, zs_257_149n, zs_257_150, zs_257_152, zs_257_155, zs_257_156, zs_257_157, zs_257_158, zs_257_158n, zs_257_159, zs_257_161, zs_257_164, zs_257_165, zs_257_166, zs_257_167, zs_257_167n, zs_257_168, zs_257_170, zs_257_173, zs_257_174, zs_257_175, zs_257_176, zs_257_176n, zs_257_177, zs_257_179, zs_257_181, zs_257_184, zs_257_185, zs_257_186, zs_257_186s, zs_257_187, zs_257_187n, zs_257_188, zs_257_190, zs_257_193, zs_257_195, zs_257_196, zs_257_198, zs_257_200, zs_257_202, zs_257_205, zs_257_208, zs_257_209, zs_257_210, zs_257_210n, zs_257_211, zs_257_213, zs_257_216, zs_257_217, zs_257_218, zs_257_218s, zs_257_219, zs_257_222, zs_257_225, zs_257_225n, zs_257_226, zs_257_228, zs_257_228n, zs_257_229, zs_257_231, zs_257_234, zs_257_235, zs_257_236, zs_257_239, zs_257_241, zs_257_242, zs_257_244, zs_257_246, zs_257_248, zs_257_251, zs_257_254, zs_257_255, zs_257_256, zs_257_256n, zs_257_257, zs_257_259, zs_257_262, zs_257_263, zs_257_264, zs_257_264s, zs_257_265, zs_257_268, zs_257_271, zs_257_274, zs_257_277, zs_257_278, r0, e1', e2, e2', r2, e3', r3, e4', yhs_f, zbk_v, zts_s, List.cons_append, List.nil_append]
  rw [q, e5]
  simp (disch := first | exact znw_u | exact znw_i) only [zs_257_76, zs_257_77]
end ZAQ

section ZCH
variable {sv : Nat → Value} {d : Nat} {h : zH} {m b : Nat} {xs : List Int32} {w w' : yW}
def yLv (A : yA) : Prop := ∀ x, x ∈ A.2.1 → ¬ x = nI 100000
def yGd (A : yA) : Prop := yRg A ∧ yLv A
def ych0 (w w' : yW) : Prop := ycur w' = ycur w ∧ yhis w' = yhis w ∧ ykep w' = ykep w ∧ w'.2.2.1 = w.2.2.1
def ych1 (w w' : yW) : Prop := yGd (ycur w') ∧ yhis w' = (ycur w :: yhis w).take 8 ∧ ykep w' = ykep w ∧ w'.2.2.1 = w.2.2.1
theorem ych0_r : ych0 w w := ⟨rfl, rfl, rfl, rfl⟩
theorem ych1_of {A : yA} (hA : yGd A) : ych1 w (ysc (yrec w) A) := ⟨hA, rfl, rfl, rfl⟩
theorem zEnd_mono {r : zR} {N K N' K' : Nat} {o : zO} (e : zEnd h m r N K o w) (h1 : N ≤ N') (h2 : K ≤ K') : zEnd h m r N' K' o w := by
  obtain ⟨h', q, c, f⟩ := e
  exact ⟨h', q, c, zfx_mono f (Nat.le_refl _) (Nat.le_refl _) h1 h2⟩
/-- a call that changes the state and answers a number that isn't below 0, or leaves it and answers one below 0 -/
def zQ (h : zH) (m : Nat) (r : zR) (N K : Nat) (w : yW) : Prop := ∃ (y : Int32) (w' : yW), zEnd h m r N K (.inl (some (.int y))) w' ∧ ((y < 0 ∧ ych0 w w') ∨ (¬ y < 0 ∧ ych1 w w'))
theorem q_220 {x : Int32} (hc : zCls h m w) (hg : yGd (ycur w)) : zQ h m (zcall zP sv (d + 49) 220 [.ref m, .int x] h) 9 134 w := by
  have h6 := (zcur_ok hc).1
  rcases ycase x (n := (ycur w).1.length) (by omega) with z | ⟨i, hi, rfl⟩
  · exact ⟨-1001, w, zEnd_mono (h_220e2 hc (d_27n (d := d + 42) hc z)) (by omega) (by omega), Or.inl ⟨by decide, ych0_r⟩⟩
  · exact ⟨_, _, zEnd_mono (h_220v hc (d_27 (d := d + 42) hc hi)) (by omega) (by omega), Or.inr ⟨nI_pos (by omega), ych1_of (show yGd _ from hg)⟩⟩
theorem q_221 {x : Int32} (hc : zCls h m w) (hg : yGd (ycur w)) : zQ h m (zcall zP sv (d + 49) 221 [.ref m, .int x] h) 9 134 w := by
  have h6 := (zcur_ok hc).1
  rcases ycase x (n := (ycur w).1.length) (by omega) with z | ⟨i, hi, rfl⟩
  · exact ⟨-1001, w, zEnd_mono (h_221e2 hc (d_28n (d := d + 1) hc z)) (by omega) (by omega), Or.inl ⟨by decide, ych0_r⟩⟩
  · obtain ⟨t, ht⟩ : ∃ t, (ycur w).1[i]? = some t := ⟨_, List.getElem?_eq_getElem hi⟩
    have tk := (zcur_ok hc).2.1 t (List.mem_of_getElem? ht)
    have t31 := tk.2.1
    exact ⟨_, _, zEnd_mono (h_221v hc (d_28 (d := d + 1) hc ht)) (by omega) (by omega), Or.inr ⟨nI_pos (by omega), ych1_of (show yGd _ from hg)⟩⟩
theorem q_222 {x c : Int32} (hc : zCls h m w) (hg : yGd (ycur w)) : zQ h m (zcall zP sv (d + 49) 222 [.ref m, .int x, .int c] h) 9 134 w := by
  have h6 := (zcur_ok hc).1
  rcases ycase x (n := (ycur w).1.length) (by omega) with z | ⟨i, hi, rfl⟩
  · exact ⟨-1001, w, zEnd_mono (h_222e2 hc (d_29n (d := d) (c := c) hc z)) (by omega) (by omega), Or.inl ⟨by decide, ych0_r⟩⟩
  · obtain ⟨t, ht⟩ : ∃ t, (ycur w).1[i]? = some t := ⟨_, List.getElem?_eq_getElem hi⟩
    have e := d_29 (sv := sv) (d := d) (c := c) hc ht
    by_cases c1 : ylet c = false
    · have q : yderF w t c = (.inr 1, w) := if_pos c1
      rw [q] at e
      exact ⟨-1002, w, zEnd_mono (h_222e1 hc e) (by omega) (by omega), Or.inl ⟨by decide, ych0_r⟩⟩
    · by_cases c2 : (ycur w).1.length = 6
      · have q : yderF w t c = (.inr 0, w) := (if_neg c1).trans (if_pos c2)
        rw [q] at e
        exact ⟨-1003, w, zEnd_mono (h_222e0 hc e) (by omega) (by omega), Or.inl ⟨by decide, ych0_r⟩⟩
      · by_cases c3 : ysz (ysim (yder c t)) ≤ 31 ∧ ydp (ysim (yder c t)) ≤ 8
        · have q : yderF w t c = (.inl (some (.int (nI (ycur w).1.length))), ysc (yrec w) ((ycur w).1 ++ [ysim (yder c t)], (ycur w).2)) := (if_neg c1).trans ((if_neg c2).trans (if_pos c3))
          rw [q] at e
          exact ⟨_, _, zEnd_mono (h_222v hc e) (by omega) (by omega), Or.inr ⟨nI_pos (by omega), ych1_of (show yGd _ from hg)⟩⟩
        · have q : yderF w t c = (.inr 3, w) := (if_neg c1).trans ((if_neg c2).trans (if_neg c3))
          rw [q] at e
          exact ⟨-1004, w, zEnd_mono (h_222e3 hc e) (by omega) (by omega), Or.inl ⟨by decide, ych0_r⟩⟩
theorem q_223 {x c y : Int32} (hc : zCls h m w) (hg : yGd (ycur w)) : zQ h m (zcall zP sv (d + 49) 223 [.ref m, .int x, .int c, .int y] h) 9 134 w := by
  have h6 := (zcur_ok hc).1
  rcases ycase x (n := (ycur w).1.length) (by omega) with z | ⟨i, hi, rfl⟩
  · exact ⟨-1001, w, zEnd_mono (h_223e2 hc (d_30n (d := d) (c := c) (y := y) hc z)) (by omega) (by omega), Or.inl ⟨by decide, ych0_r⟩⟩
  · obtain ⟨t, ht⟩ : ∃ t, (ycur w).1[i]? = some t := ⟨_, List.getElem?_eq_getElem hi⟩
    rcases ycase y (n := (ycur w).1.length) (by omega) with z | ⟨j, hj, rfl⟩
    · exact ⟨-1001, w, zEnd_mono (h_223e2 hc (d_30m (d := d) (c := c) hc ht z)) (by omega) (by omega), Or.inl ⟨by decide, ych0_r⟩⟩
    · obtain ⟨u, hu⟩ : ∃ u, (ycur w).1[j]? = some u := ⟨_, List.getElem?_eq_getElem hj⟩
      have e := d_30 (sv := sv) (d := d) (c := c) hc ht hu
      by_cases c1 : ylet c = false
      · have q : yinsF w i t c u = (.inr 1, w) := if_pos c1
        rw [q] at e
        exact ⟨-1002, w, zEnd_mono (h_223e1 hc e) (by omega) (by omega), Or.inl ⟨by decide, ych0_r⟩⟩
      · by_cases c3 : ysz (yins c u t) ≤ 31 ∧ ydp (yins c u t) ≤ 8
        · have q : yinsF w i t c u = (.inl (some (.int (nI (ysz (yins c u t))))), ysc (yrec w) ((ycur w).1.set i (yins c u t), (ycur w).2)) := (if_neg c1).trans (if_pos c3)
          rw [q] at e
          exact ⟨_, _, zEnd_mono (h_223v hc e) (by omega) (by omega), Or.inr ⟨nI_pos (by omega), ych1_of (show yGd _ from hg)⟩⟩
        · have q : yinsF w i t c u = (.inr 3, w) := (if_neg c1).trans (if_neg c3)
          rw [q] at e
          exact ⟨-1003, w, zEnd_mono (h_223e3 hc e) (by omega) (by omega), Or.inl ⟨by decide, ych0_r⟩⟩
theorem q_225 {x : Int32} (hc : zCls h m w) (hg : yGd (ycur w)) : zQ h m (zcall zP sv (d + 49) 225 [.ref m, .int x] h) 9 134 w := by
  obtain ⟨⟨M, h1M, hM, hR⟩, hv⟩ := hg
  by_cases c1 : x < nI 1
  · exact ⟨-1001, w, zEnd_mono (h_225e1 hc (d_32n (d := d + 42) hc (Or.inl c1))) (by omega) (by omega), Or.inl ⟨by decide, ych0_r⟩⟩
  · by_cases c2 : nI 4 < x
    · exact ⟨-1001, w, zEnd_mono (h_225e1 hc (d_32n (d := d + 42) hc (Or.inr c2))) (by omega) (by omega), Or.inl ⟨by decide, ych0_r⟩⟩
    · have e := h_225v hc (d_32 (sv := sv) (d := d + 42) hc c1 c2)
      have hx : ∃ j, 1 ≤ j ∧ j ≤ 4 ∧ x = nI j := by
        have c0 : ¬ x < 0 := fun q => c1 (by
          rw [Int32.lt_iff_toInt_lt] at q ⊢
          have e0 : (0 : Int32).toInt = 0 := by decide
          have e1 : (nI 1).toInt = 1 := by decide +kernel
          rw [e0] at q
          rw [e1]
          omega)
        obtain ⟨j, hj, rfl⟩ := nI_of c0
        refine ⟨j, ?_, ?_, rfl⟩
        · by_cases q : 1 ≤ j
          · exact q
          · exact absurd (nI_lt (by omega) (by decide)) c1
        · by_cases q : j ≤ 4
          · exact q
          · exact absurd (nI_lt (by omega) hj) c2
      obtain ⟨j, j1, j4, rfl⟩ := hx
      refine ⟨_, _, zEnd_mono e (by omega) (by omega), Or.inr ⟨?_, ych1_of (show yGd _ from ⟨⟨j, j1, j4, rfl⟩, hv⟩)⟩⟩
      rw [hR]
      exact nI_pos (by omega)
theorem yg_or (A : List Int32) (x : Int32) : yg A x = 0 ∨ yg A x ∈ A := by
  unfold yg
  by_cases c : x < 0
  · rw [if_pos c]; exact Or.inl rfl
  · rw [if_neg c, List.getD_eq_getElem?_getD]
    rcases hq : A[x.toNatClampNeg]? with _ | v
    · exact Or.inl rfl
    · exact Or.inr (List.mem_of_getElem? hq)
theorem ys_mem {A : List Int32} {i x y : Int32} (h : y ∈ ys A i x) : y ∈ A ∨ y = x := by
  unfold ys at h
  by_cases c : i < 0
  · rw [if_pos c] at h; exact Or.inl h
  · rw [if_neg c] at h; exact List.mem_or_eq_of_mem_set h
theorem yGd_0 {A : yA} {x : Int32} (hg : yGd A) : ¬ yg A.2.1 x = nI 100000 := fun q => by
  rcases yg_or A.2.1 x with e | e
  · rw [e] at q
    exact absurd q (by decide +kernel)
  · exact hg.2 _ e q
theorem yGd_s {A : yA} {i x : Int32} (hg : yGd A) (h3 : ¬ nI 999 < x) : yGd (A.1, ys A.2.1 i x, A.2.2) := ⟨hg.1, fun y hy q => by
  rcases ys_mem hy with e | e
  · exact hg.2 y e q
  · rw [← e, q] at h3
    exact h3 (nI_lt (by decide) (by decide))⟩
theorem q_252 {c x : Int32} (hc : zCls h m w) (hg : yGd (ycur w)) : ∃ (y : Int32) (w' : yW), zEnd h m (zcall zP sv (d + 49) 252 [.ref m, .int c, .int x] h) 9 134 (.inl (some (.int y))) w' ∧ ((y = nI 100000 ∧ ych0 w w') ∨ (¬ y = nI 100000 ∧ ych1 w w')) := by
  by_cases c1 : ylet c = true
  · by_cases c2 : x < -999
    · exact ⟨_, w, zEnd_mono (h_252e1 hc (d_31n (d := d + 42) hc (Or.inr (Or.inl c2)))) (by omega) (by omega), Or.inl ⟨rfl, ych0_r⟩⟩
    · by_cases c3 : nI 999 < x
      · exact ⟨_, w, zEnd_mono (h_252e1 hc (d_31n (d := d + 42) hc (Or.inr (Or.inr c3)))) (by omega) (by omega), Or.inl ⟨rfl, ych0_r⟩⟩
      · exact ⟨_, _, zEnd_mono (h_252v hc (d_31 (d := d + 42) hc c1 c2 c3)) (by omega) (by omega), Or.inr ⟨yGd_0 hg, ych1_of (yGd_s hg c3)⟩⟩
  · have c1' : ylet c = false := by
      cases hq : ylet c with
      | true => exact absurd hq c1
      | false => rfl
    exact ⟨_, w, zEnd_mono (h_252e1 hc (d_31n (d := d + 42) hc (Or.inl c1'))) (by omega) (by omega), Or.inl ⟨rfl, ych0_r⟩⟩
theorem q_253 {s a : Nat} {bs : List Int32} (hz : sv 0 = .int (nI 1)) (h3 : zty 4 (sv 3) = true) (hc : zCls h m w) (hg : yGd (ycur w)) (hs : zStr h s a bs) (so : s < m ∨ m + 119 ≤ s) (ao : a < m ∨ m + 119 ≤ a) : zQ h m (zcall zP sv (d + 49) 253 [.ref m, .ref s] h) 69 494 w := by
  have h6 := (zcur_ok hc).1
  have e := l_253 (d := d) hz h3 hc hs so ao
  refine ⟨_, _, e, ?_⟩
  rcases hq : (yadd (ysb w bs).1).1 with _ | t
  · have q : yaddF (ysb w bs) = (.inr 1, yse (ysb (ysb w bs) []) (nI (yadd (ysb w bs).1).2)) := by unfold yaddF; rw [hq]
    rw [q]
    exact Or.inl ⟨show (-1001 : Int32) < 0 by decide, rfl, rfl, rfl, rfl⟩
  · by_cases c6 : (ycur (ysb w bs)).1.length = 6
    · have q : yaddF (ysb w bs) = (.inr 0, ysb (ysb w bs) []) := by
        unfold yaddF
        rw [hq]
        exact if_pos c6
      rw [q]
      exact Or.inl ⟨show (-1002 : Int32) < 0 by decide, rfl, rfl, rfl, rfl⟩
    · by_cases c : ysz t ≤ 31 ∧ ydp t ≤ 8
      · have q : yaddF (ysb w bs) = (.inl (some (.int (nI (ycur w).1.length))), ysc (yrec (ysb w [])) ((ycur w).1 ++ [t], (ycur w).2)) := by
          unfold yaddF
          rw [hq]
          exact (if_neg c6).trans (if_pos c)
        rw [q]
        exact Or.inr ⟨nI_pos (by omega), show yGd ((ycur w).1 ++ [t], (ycur w).2) from hg, rfl, rfl, rfl⟩
      · have q : yaddF (ysb w bs) = (.inr 3, ysb (ysb w bs) []) := by
          unfold yaddF
          rw [hq]
          exact (if_neg c6).trans (if_neg c)
        rw [q]
        exact Or.inl ⟨show (-1003 : Int32) < 0 by decide, rfl, rfl, rfl, rfl⟩
theorem zsw_c : ∀ j, j < 22 → zswp (zP.2.2.2.1 1) 257 (nI j) = (if j < 4 then 120 else if j < 6 then 161 else if j < 9 then 175 else if j < 12 then 189 else if j < 16 then 204 else if j < 19 then 228 else 257) := by decide +kernel
/-- changes -/
theorem l_258 {x : Int32} (hz : sv 0 = .int (nI 1)) (h3 : zty 4 (sv 3) = true) (hB : zBs sv h m b xs) (hc : zCls h m w) (hg : yGd (ycur w)) : ∃ (h' : zH) (w' : yW) (c : Bool), zcall zP sv (d + 50) 258 [.ref m, .int x] h = some (.inl (some (.int (yb c))), h') ∧ zCls h' m w' ∧ zfy m 30000 62000 h h' ∧ ((c = true ∧ ych1 w w') ∨ (c = false ∧ ych0 w w')) := by
  obtain ⟨f, hf, ef⟩ := l_217 (sv := sv) (x := x >>> (nI 4 &&& 31)) (n := 7) (by decide) (by decide)
  obtain ⟨v, hv, ev⟩ := l_217 (sv := sv) (x := x >>> (nI 7 &&& 31)) (n := 7) (by decide) (by decide)
  obtain ⟨j, hj, ej⟩ := l_217 (sv := sv) (x := x) (n := 22) (by decide) (by decide)
  have ec := ytx_c v hv
  have sw := zsw_c j hj
  have e0 : zcall zP sv (d + 50) 258 [.ref m, .int x] h = zrun zP sv (zcall zP sv (d + 49)) 258 (zswp (zP.2.2.2.1 1) 257 (nI j)) [.val (.ref m), .val (.int x), .val (.int (nI f)), .val (.int (nI (97 + v))), .unset] [] h := by
    simp (disch := first | exact znw_u | exact znw_i) only [zc_258, zs_258_0, zs_258_1, zs_258_2, zs_258_3, zs_258_5, zs_258_8, zs_258_9, zs_258_11, zs_258_12, zs_258_14, zs_258_15, zs_258_17, zs_258_20, zs_258_21, zs_258_22, zs_258_23, zs_258_24, zs_258_26, zs_258_29, ef, ev, ej, ec, zbk_v, zts_s, List.cons_append, List.nil_append]
  have t0 : yb true = nI 1 := rfl
  have f0 : yb false = 0 := rfl
  have fin : ∀ {r : zR} {N K : Nat}, N ≤ 30000 → K ≤ 62000 → zQ h m r N K w → ∃ (h1 : zH) (w1 : yW) (y : Int32), r = some (.inl (some (.int y)), h1) ∧ zCls h1 m w1 ∧ zfy m 30000 62000 h h1 ∧ ((y < 0 ∧ ych0 w w1) ∨ (¬ y < 0 ∧ ych1 w w1)) := by
    intro r N K hN hK q
    obtain ⟨y, w1, ⟨h1, e, c1, f1⟩, z⟩ := q
    exact ⟨h1, w1, y, e, c1, zfy_mono (zfy_fx f1) hN hK, z⟩
  rw [e0]
  by_cases c1 : j < 4
  · rw [sw, if_pos c1]
    obtain ⟨r, hr, er⟩ := l_217 (sv := sv) (x := x >>> (nI 6 &&& 31)) (n := 3) (by decide) (by decide)
    have hm := zCls_m hc
    obtain ⟨D, hD⟩ : ∃ D, d + 49 = D + 10 + (1 + r) := ⟨d + 38 - r, by omega⟩
    obtain ⟨h1, s, a, bs, t, e1, S1, ⟨g1, g2⟩, T1, n1⟩ := l_254 (sv := sv) (d := D) hz h3 (1 + r) (by omega) x h (zBs_K hB hm) (zBs_D hB hm)
    rw [← hD] at e1
    have hc1 : zCls h1 m w := zCls_new hc n1.1 n1.2.1
    have hm9 := hc.1
    obtain ⟨p1, p2, p3, _⟩ := yTx_p _ _ _ T1
    have p60 := S1.2.2.2.1
    have e196 : zcall zP sv (d + 49) 196 [.ref s] h1 = _ := s_196 (d := d + 47) hz S1
    have c60 : ¬ nI 60 < nI bs.length := nI_nlt p60 (by decide)
    have yb4 : yTb (1 + r) ≤ 29 := by
      rcases (show r = 0 ∨ r = 1 ∨ r = 2 by omega) with rfl | rfl | rfl <;> decide
    have q := q_253 (d := d) hz h3 hc1 hg S1 (Or.inr (by omega)) (Or.inr (by omega))
    obtain ⟨y, w1, ⟨h2, e2, c2, f2⟩, z⟩ := q
    have F : zfy m 30000 62000 h h2 := zfy_mono (zfy_tr (zfy_fx (zns_fx n1)) (zfy_fx f2)) (by omega) (by omega)
    rcases z with ⟨z1, z2⟩ | ⟨z1, z2⟩
    · refine ⟨h2, w1, false, ?_, c2, F, Or.inr ⟨rfl, z2⟩⟩
      rw [f0]
      simp (disch := first | exact znw_u | exact znw_i) only [zs_258_0, zs_258_1, zs_258_2, zs_258_3, zs_258_5, zs_258_8, zs_258_9, zs_258_11, zs_258_12, zs_258_14, zs_258_15, zs_258_17, zs_258_20, zs_258_21, zs_258_22, zs_258_23, zs_258_24, zs_258_26, zs_258_29, zs_258_120, zs_258_121, zs_258_122, zs_258_123, zs_258_125, zs_258_126, zs_258_127, zs_258_130, zs_258_131, zs_258_134, zs_258_134n, zs_258_136, zs_258_136n, zs_258_138, zs_258_141, zs_258_143, zs_258_146, zs_258_146n, zs_258_147, zs_258_147n, zs_258_149, zs_258_152, zs_258_155, zs_258_156, zs_258_159, zs_258_160, zs_258_161, zs_258_161n, zs_258_162, zs_258_163, zs_258_166, zs_258_169, zs_258_170, zs_258_173, zs_258_174, zs_258_175, zs_258_175n, zs_258_176, zs_258_177, zs_258_180, zs_258_183, zs_258_184, zs_258_187, zs_258_188, zs_258_189, zs_258_189n, zs_258_190, zs_258_191, zs_258_192, zs_258_195, zs_258_198, zs_258_199, zs_258_202, zs_258_203, zs_258_204, zs_258_204n, zs_258_205, zs_258_206, zs_258_207, zs_258_208, zs_258_210, zs_258_211, zs_258_213, zs_258_216, zs_258_219, zs_258_222, zs_258_223, zs_258_226, zs_258_227, zs_258_228, zs_258_228n, zs_258_229, zs_258_230, zs_258_231, zs_258_232, zs_258_233, zs_258_236, zs_258_239, zs_258_242, zs_258_243, zs_258_246, zs_258_248, zs_258_251, zs_258_252, zs_258_255, zs_258_256, zs_258_257, zs_258_257n, zs_258_258, zs_258_259, zs_258_260, zs_258_261, zs_258_263, zs_258_266, zs_258_269, zs_258_272, zs_258_273, zs_258_276, zs_258_277, er, nI_add, e1, zStr_rc S1, e196, if_neg c60, e2, if_pos z1, zty_50, zgd_t, zbk_v, zts_s, List.cons_append, List.nil_append]
    · refine ⟨h2, w1, true, ?_, c2, F, Or.inl ⟨rfl, z2⟩⟩
      rw [t0]
      simp (disch := first | exact znw_u | exact znw_i) only [zs_258_0, zs_258_1, zs_258_2, zs_258_3, zs_258_5, zs_258_8, zs_258_9, zs_258_11, zs_258_12, zs_258_14, zs_258_15, zs_258_17, zs_258_20, zs_258_21, zs_258_22, zs_258_23, zs_258_24, zs_258_26, zs_258_29, zs_258_120, zs_258_121, zs_258_122, zs_258_123, zs_258_125, zs_258_126, zs_258_127, zs_258_130, zs_258_131, zs_258_134, zs_258_134n, zs_258_136, zs_258_136n, zs_258_138, zs_258_141, zs_258_143, zs_258_146, zs_258_146n, zs_258_147, zs_258_147n, zs_258_149, zs_258_152, zs_258_155, zs_258_156, zs_258_159, zs_258_160, zs_258_161, zs_258_161n, zs_258_162, zs_258_163, zs_258_166, zs_258_169, zs_258_170, zs_258_173, zs_258_174, zs_258_175, zs_258_175n, zs_258_176, zs_258_177, zs_258_180, zs_258_183, zs_258_184, zs_258_187, zs_258_188, zs_258_189, zs_258_189n, zs_258_190, zs_258_191, zs_258_192, zs_258_195, zs_258_198, zs_258_199, zs_258_202, zs_258_203, zs_258_204, zs_258_204n, zs_258_205, zs_258_206, zs_258_207, zs_258_208, zs_258_210, zs_258_211, zs_258_213, zs_258_216, zs_258_219, zs_258_222, zs_258_223, zs_258_226, zs_258_227, zs_258_228, zs_258_228n, zs_258_229, zs_258_230, zs_258_231, zs_258_232, zs_258_233, zs_258_236, zs_258_239, zs_258_242, zs_258_243, zs_258_246, zs_258_248, zs_258_251, zs_258_252, zs_258_255, zs_258_256, zs_258_257, zs_258_257n, zs_258_258, zs_258_259, zs_258_260, zs_258_261, zs_258_263, zs_258_266, zs_258_269, zs_258_272, zs_258_273, zs_258_276, zs_258_277, er, nI_add, e1, zStr_rc S1, e196, if_neg c60, e2, if_neg z1, zty_51, zgd_t, zbk_v, zts_s, List.cons_append, List.nil_append]
  · by_cases c2 : j < 6
    · rw [sw, if_neg c1, if_pos c2]
      obtain ⟨h1, w1, y, e1, k1, F, z⟩ := fin (by omega) (by omega) (q_220 (sv := sv) (d := d) (x := nI f) hc hg)
      rcases z with ⟨z1, z2⟩ | ⟨z1, z2⟩
      · refine ⟨h1, w1, false, ?_, k1, F, Or.inr ⟨rfl, z2⟩⟩
        rw [f0]
        simp (disch := first | exact znw_u | exact znw_i) only [zs_258_0, zs_258_1, zs_258_2, zs_258_3, zs_258_5, zs_258_8, zs_258_9, zs_258_11, zs_258_12, zs_258_14, zs_258_15, zs_258_17, zs_258_20, zs_258_21, zs_258_22, zs_258_23, zs_258_24, zs_258_26, zs_258_29, zs_258_120, zs_258_121, zs_258_122, zs_258_123, zs_258_125, zs_258_126, zs_258_127, zs_258_130, zs_258_131, zs_258_134, zs_258_134n, zs_258_136, zs_258_136n, zs_258_138, zs_258_141, zs_258_143, zs_258_146, zs_258_146n, zs_258_147, zs_258_147n, zs_258_149, zs_258_152, zs_258_155, zs_258_156, zs_258_159, zs_258_160, zs_258_161, zs_258_161n, zs_258_162, zs_258_163, zs_258_166, zs_258_169, zs_258_170, zs_258_173, zs_258_174, zs_258_175, zs_258_175n, zs_258_176, zs_258_177, zs_258_180, zs_258_183, zs_258_184, zs_258_187, zs_258_188, zs_258_189, zs_258_189n, zs_258_190, zs_258_191, zs_258_192, zs_258_195, zs_258_198, zs_258_199, zs_258_202, zs_258_203, zs_258_204, zs_258_204n, zs_258_205, zs_258_206, zs_258_207, zs_258_208, zs_258_210, zs_258_211, zs_258_213, zs_258_216, zs_258_219, zs_258_222, zs_258_223, zs_258_226, zs_258_227, zs_258_228, zs_258_228n, zs_258_229, zs_258_230, zs_258_231, zs_258_232, zs_258_233, zs_258_236, zs_258_239, zs_258_242, zs_258_243, zs_258_246, zs_258_248, zs_258_251, zs_258_252, zs_258_255, zs_258_256, zs_258_257, zs_258_257n, zs_258_258, zs_258_259, zs_258_260, zs_258_261, zs_258_263, zs_258_266, zs_258_269, zs_258_272, zs_258_273, zs_258_276, zs_258_277, e1, if_pos z1, zty_50, zgd_t, zbk_v, zts_s, List.cons_append, List.nil_append]
      · refine ⟨h1, w1, true, ?_, k1, F, Or.inl ⟨rfl, z2⟩⟩
        rw [t0]
        simp (disch := first | exact znw_u | exact znw_i) only [zs_258_0, zs_258_1, zs_258_2, zs_258_3, zs_258_5, zs_258_8, zs_258_9, zs_258_11, zs_258_12, zs_258_14, zs_258_15, zs_258_17, zs_258_20, zs_258_21, zs_258_22, zs_258_23, zs_258_24, zs_258_26, zs_258_29, zs_258_120, zs_258_121, zs_258_122, zs_258_123, zs_258_125, zs_258_126, zs_258_127, zs_258_130, zs_258_131, zs_258_134, zs_258_134n, zs_258_136, zs_258_136n, zs_258_138, zs_258_141, zs_258_143, zs_258_146, zs_258_146n, zs_258_147, zs_258_147n, zs_258_149, zs_258_152, zs_258_155, zs_258_156, zs_258_159, zs_258_160, zs_258_161, zs_258_161n, zs_258_162, zs_258_163, zs_258_166, zs_258_169, zs_258_170, zs_258_173, zs_258_174, zs_258_175, zs_258_175n, zs_258_176, zs_258_177, zs_258_180, zs_258_183, zs_258_184, zs_258_187, zs_258_188, zs_258_189, zs_258_189n, zs_258_190, zs_258_191, zs_258_192, zs_258_195, zs_258_198, zs_258_199, zs_258_202, zs_258_203, zs_258_204, zs_258_204n, zs_258_205, zs_258_206, zs_258_207, zs_258_208, zs_258_210, zs_258_211, zs_258_213, zs_258_216, zs_258_219, zs_258_222, zs_258_223, zs_258_226, zs_258_227, zs_258_228, zs_258_228n, zs_258_229, zs_258_230, zs_258_231, zs_258_232, zs_258_233, zs_258_236, zs_258_239, zs_258_242, zs_258_243, zs_258_246, zs_258_248, zs_258_251, zs_258_252, zs_258_255, zs_258_256, zs_258_257, zs_258_257n, zs_258_258, zs_258_259, zs_258_260, zs_258_261, zs_258_263, zs_258_266, zs_258_269, zs_258_272, zs_258_273, zs_258_276, zs_258_277, e1, if_neg z1, zty_51, zgd_t, zbk_v, zts_s, List.cons_append, List.nil_append]
    · by_cases c3 : j < 9
      · rw [sw, if_neg c1, if_neg c2, if_pos c3]
        obtain ⟨h1, w1, y, e1, k1, F, z⟩ := fin (by omega) (by omega) (q_221 (sv := sv) (d := d) (x := nI f) hc hg)
        rcases z with ⟨z1, z2⟩ | ⟨z1, z2⟩
        · refine ⟨h1, w1, false, ?_, k1, F, Or.inr ⟨rfl, z2⟩⟩
          rw [f0]
          simp (disch := first | exact znw_u | exact znw_i) only [zs_258_0, zs_258_1, zs_258_2, zs_258_3, zs_258_5, zs_258_8, zs_258_9, zs_258_11, zs_258_12, zs_258_14, zs_258_15, zs_258_17, zs_258_20, zs_258_21, zs_258_22, zs_258_23, zs_258_24, zs_258_26, zs_258_29, zs_258_120, zs_258_121, zs_258_122, zs_258_123, zs_258_125, zs_258_126, zs_258_127, zs_258_130, zs_258_131, zs_258_134, zs_258_134n, zs_258_136, zs_258_136n, zs_258_138, zs_258_141, zs_258_143, zs_258_146, zs_258_146n, zs_258_147, zs_258_147n, zs_258_149, zs_258_152, zs_258_155, zs_258_156, zs_258_159, zs_258_160, zs_258_161, zs_258_161n, zs_258_162, zs_258_163, zs_258_166, zs_258_169, zs_258_170, zs_258_173, zs_258_174, zs_258_175, zs_258_175n, zs_258_176, zs_258_177, zs_258_180, zs_258_183, zs_258_184, zs_258_187, zs_258_188, zs_258_189, zs_258_189n, zs_258_190, zs_258_191, zs_258_192, zs_258_195, zs_258_198, zs_258_199, zs_258_202, zs_258_203, zs_258_204, zs_258_204n, zs_258_205, zs_258_206, zs_258_207, zs_258_208, zs_258_210, zs_258_211, zs_258_213, zs_258_216, zs_258_219, zs_258_222, zs_258_223, zs_258_226, zs_258_227, zs_258_228, zs_258_228n, zs_258_229, zs_258_230, zs_258_231, zs_258_232, zs_258_233, zs_258_236, zs_258_239, zs_258_242, zs_258_243, zs_258_246, zs_258_248, zs_258_251, zs_258_252, zs_258_255, zs_258_256, zs_258_257, zs_258_257n, zs_258_258, zs_258_259, zs_258_260, zs_258_261, zs_258_263, zs_258_266, zs_258_269, zs_258_272, zs_258_273, zs_258_276, zs_258_277, e1, if_pos z1, zty_50, zgd_t, zbk_v, zts_s, List.cons_append, List.nil_append]
        · refine ⟨h1, w1, true, ?_, k1, F, Or.inl ⟨rfl, z2⟩⟩
          rw [t0]
          simp (disch := first | exact znw_u | exact znw_i) only [zs_258_0, zs_258_1, zs_258_2, zs_258_3, zs_258_5, zs_258_8, zs_258_9, zs_258_11, zs_258_12, zs_258_14, zs_258_15, zs_258_17, zs_258_20, zs_258_21, zs_258_22, zs_258_23, zs_258_24, zs_258_26, zs_258_29, zs_258_120, zs_258_121, zs_258_122, zs_258_123, zs_258_125, zs_258_126, zs_258_127, zs_258_130, zs_258_131, zs_258_134, zs_258_134n, zs_258_136, zs_258_136n, zs_258_138, zs_258_141, zs_258_143, zs_258_146, zs_258_146n, zs_258_147, zs_258_147n, zs_258_149, zs_258_152, zs_258_155, zs_258_156, zs_258_159, zs_258_160, zs_258_161, zs_258_161n, zs_258_162, zs_258_163, zs_258_166, zs_258_169, zs_258_170, zs_258_173, zs_258_174, zs_258_175, zs_258_175n, zs_258_176, zs_258_177, zs_258_180, zs_258_183, zs_258_184, zs_258_187, zs_258_188, zs_258_189, zs_258_189n, zs_258_190, zs_258_191, zs_258_192, zs_258_195, zs_258_198, zs_258_199, zs_258_202, zs_258_203, zs_258_204, zs_258_204n, zs_258_205, zs_258_206, zs_258_207, zs_258_208, zs_258_210, zs_258_211, zs_258_213, zs_258_216, zs_258_219, zs_258_222, zs_258_223, zs_258_226, zs_258_227, zs_258_228, zs_258_228n, zs_258_229, zs_258_230, zs_258_231, zs_258_232, zs_258_233, zs_258_236, zs_258_239, zs_258_242, zs_258_243, zs_258_246, zs_258_248, zs_258_251, zs_258_252, zs_258_255, zs_258_256, zs_258_257, zs_258_257n, zs_258_258, zs_258_259, zs_258_260, zs_258_261, zs_258_263, zs_258_266, zs_258_269, zs_258_272, zs_258_273, zs_258_276, zs_258_277, e1, if_neg z1, zty_51, zgd_t, zbk_v, zts_s, List.cons_append, List.nil_append]
      · by_cases c4 : j < 12
        · rw [sw, if_neg c1, if_neg c2, if_neg c3, if_pos c4]
          obtain ⟨h1, w1, y, e1, k1, F, z⟩ := fin (by omega) (by omega) (q_222 (sv := sv) (d := d) (x := nI f) (c := nI (97 + v)) hc hg)
          rcases z with ⟨z1, z2⟩ | ⟨z1, z2⟩
          · refine ⟨h1, w1, false, ?_, k1, F, Or.inr ⟨rfl, z2⟩⟩
            rw [f0]
            simp (disch := first | exact znw_u | exact znw_i) only [zs_258_0, zs_258_1, zs_258_2, zs_258_3, zs_258_5, zs_258_8, zs_258_9, zs_258_11, zs_258_12, zs_258_14, zs_258_15, zs_258_17, zs_258_20, zs_258_21, zs_258_22, zs_258_23, zs_258_24, zs_258_26, zs_258_29, zs_258_120, zs_258_121, zs_258_122, zs_258_123, zs_258_125, zs_258_126, zs_258_127, zs_258_130, zs_258_131, zs_258_134, zs_258_134n, zs_258_136, zs_258_136n, zs_258_138, zs_258_141, zs_258_143, zs_258_146, zs_258_146n, zs_258_147, zs_258_147n, zs_258_149, zs_258_152, zs_258_155, zs_258_156, zs_258_159, zs_258_160, zs_258_161, zs_258_161n, zs_258_162, zs_258_163, zs_258_166, zs_258_169, zs_258_170, zs_258_173, zs_258_174, zs_258_175, zs_258_175n, zs_258_176, zs_258_177, zs_258_180, zs_258_183, zs_258_184, zs_258_187, zs_258_188, zs_258_189, zs_258_189n, zs_258_190, zs_258_191, zs_258_192, zs_258_195, zs_258_198, zs_258_199, zs_258_202, zs_258_203, zs_258_204, zs_258_204n, zs_258_205, zs_258_206, zs_258_207, zs_258_208, zs_258_210, zs_258_211, zs_258_213, zs_258_216, zs_258_219, zs_258_222, zs_258_223, zs_258_226, zs_258_227, zs_258_228, zs_258_228n, zs_258_229, zs_258_230, zs_258_231, zs_258_232, zs_258_233, zs_258_236, zs_258_239, zs_258_242, zs_258_243, zs_258_246, zs_258_248, zs_258_251, zs_258_252, zs_258_255, zs_258_256, zs_258_257, zs_258_257n, zs_258_258, zs_258_259, zs_258_260, zs_258_261, zs_258_263, zs_258_266, zs_258_269, zs_258_272, zs_258_273, zs_258_276, zs_258_277, e1, if_pos z1, zty_50, zgd_t, zbk_v, zts_s, List.cons_append, List.nil_append]
          · refine ⟨h1, w1, true, ?_, k1, F, Or.inl ⟨rfl, z2⟩⟩
            rw [t0]
            simp (disch := first | exact znw_u | exact znw_i) only [zs_258_0, zs_258_1, zs_258_2, zs_258_3, zs_258_5, zs_258_8, zs_258_9, zs_258_11, zs_258_12, zs_258_14, zs_258_15, zs_258_17, zs_258_20, zs_258_21, zs_258_22, zs_258_23, zs_258_24, zs_258_26, zs_258_29, zs_258_120, zs_258_121, zs_258_122, zs_258_123, zs_258_125, zs_258_126, zs_258_127, zs_258_130, zs_258_131, zs_258_134, zs_258_134n, zs_258_136, zs_258_136n, zs_258_138, zs_258_141, zs_258_143, zs_258_146, zs_258_146n, zs_258_147, zs_258_147n, zs_258_149, zs_258_152, zs_258_155, zs_258_156, zs_258_159, zs_258_160, zs_258_161, zs_258_161n, zs_258_162, zs_258_163, zs_258_166, zs_258_169, zs_258_170, zs_258_173, zs_258_174, zs_258_175, zs_258_175n, zs_258_176, zs_258_177, zs_258_180, zs_258_183, zs_258_184, zs_258_187, zs_258_188, zs_258_189, zs_258_189n, zs_258_190, zs_258_191, zs_258_192, zs_258_195, zs_258_198, zs_258_199, zs_258_202, zs_258_203, zs_258_204, zs_258_204n, zs_258_205, zs_258_206, zs_258_207, zs_258_208, zs_258_210, zs_258_211, zs_258_213, zs_258_216, zs_258_219, zs_258_222, zs_258_223, zs_258_226, zs_258_227, zs_258_228, zs_258_228n, zs_258_229, zs_258_230, zs_258_231, zs_258_232, zs_258_233, zs_258_236, zs_258_239, zs_258_242, zs_258_243, zs_258_246, zs_258_248, zs_258_251, zs_258_252, zs_258_255, zs_258_256, zs_258_257, zs_258_257n, zs_258_258, zs_258_259, zs_258_260, zs_258_261, zs_258_263, zs_258_266, zs_258_269, zs_258_272, zs_258_273, zs_258_276, zs_258_277, e1, if_neg z1, zty_51, zgd_t, zbk_v, zts_s, List.cons_append, List.nil_append]
        · by_cases c5 : j < 16
          · rw [sw, if_neg c1, if_neg c2, if_neg c3, if_neg c4, if_pos c5]
            obtain ⟨r, hr, er⟩ := l_217 (sv := sv) (x := x >>> (nI 10 &&& 31)) (n := 7) (by decide) (by decide)
            obtain ⟨h1, w1, y, e1, k1, F, z⟩ := fin (by omega) (by omega) (q_223 (sv := sv) (d := d) (x := nI f) (c := nI (97 + v)) (y := nI r) hc hg)
            rcases z with ⟨z1, z2⟩ | ⟨z1, z2⟩
            · refine ⟨h1, w1, false, ?_, k1, F, Or.inr ⟨rfl, z2⟩⟩
              rw [f0]
              simp (disch := first | exact znw_u | exact znw_i) only [zs_258_0, zs_258_1, zs_258_2, zs_258_3, zs_258_5, zs_258_8, zs_258_9, zs_258_11, zs_258_12, zs_258_14, zs_258_15, zs_258_17, zs_258_20, zs_258_21, zs_258_22, zs_258_23, zs_258_24, zs_258_26, zs_258_29, zs_258_120, zs_258_121, zs_258_122, zs_258_123, zs_258_125, zs_258_126, zs_258_127, zs_258_130, zs_258_131, zs_258_134, zs_258_134n, zs_258_136, zs_258_136n, zs_258_138, zs_258_141, zs_258_143, zs_258_146, zs_258_146n, zs_258_147, zs_258_147n, zs_258_149, zs_258_152, zs_258_155, zs_258_156, zs_258_159, zs_258_160, zs_258_161, zs_258_161n, zs_258_162, zs_258_163, zs_258_166, zs_258_169, zs_258_170, zs_258_173, zs_258_174, zs_258_175, zs_258_175n, zs_258_176, zs_258_177, zs_258_180, zs_258_183, zs_258_184, zs_258_187, zs_258_188, zs_258_189, zs_258_189n, zs_258_190, zs_258_191, zs_258_192, zs_258_195, zs_258_198, zs_258_199, zs_258_202, zs_258_203, zs_258_204, zs_258_204n, zs_258_205, zs_258_206, zs_258_207, zs_258_208, zs_258_210, zs_258_211, zs_258_213, zs_258_216, zs_258_219, zs_258_222, zs_258_223, zs_258_226, zs_258_227, zs_258_228, zs_258_228n, zs_258_229, zs_258_230, zs_258_231, zs_258_232, zs_258_233, zs_258_236, zs_258_239, zs_258_242, zs_258_243, zs_258_246, zs_258_248, zs_258_251, zs_258_252, zs_258_255, zs_258_256, zs_258_257, zs_258_257n, zs_258_258, zs_258_259, zs_258_260, zs_258_261, zs_258_263, zs_258_266, zs_258_269, zs_258_272, zs_258_273, zs_258_276, zs_258_277, er, e1, if_pos z1, zty_50, zgd_t, zbk_v, zts_s, List.cons_append, List.nil_append]
            · refine ⟨h1, w1, true, ?_, k1, F, Or.inl ⟨rfl, z2⟩⟩
              rw [t0]
              simp (disch := first | exact znw_u | exact znw_i) only [zs_258_0, zs_258_1, zs_258_2, zs_258_3, zs_258_5, zs_258_8, zs_258_9, zs_258_11, zs_258_12, zs_258_14, zs_258_15, zs_258_17, zs_258_20, zs_258_21, zs_258_22, zs_258_23, zs_258_24, zs_258_26, zs_258_29, zs_258_120, zs_258_121, zs_258_122, zs_258_123, zs_258_125, zs_258_126, zs_258_127, zs_258_130, zs_258_131, zs_258_134, zs_258_134n, zs_258_136, zs_258_136n, zs_258_138, zs_258_141, zs_258_143, zs_258_146, zs_258_146n, zs_258_147, zs_258_147n, zs_258_149, zs_258_152, zs_258_155, zs_258_156, zs_258_159, zs_258_160, zs_258_161, zs_258_161n, zs_258_162, zs_258_163, zs_258_166, zs_258_169, zs_258_170, zs_258_173, zs_258_174, zs_258_175, zs_258_175n, zs_258_176, zs_258_177, zs_258_180, zs_258_183, zs_258_184, zs_258_187, zs_258_188, zs_258_189, zs_258_189n, zs_258_190, zs_258_191, zs_258_192, zs_258_195, zs_258_198, zs_258_199, zs_258_202, zs_258_203, zs_258_204, zs_258_204n, zs_258_205, zs_258_206, zs_258_207, zs_258_208, zs_258_210, zs_258_211, zs_258_213, zs_258_216, zs_258_219, zs_258_222, zs_258_223, zs_258_226, zs_258_227, zs_258_228, zs_258_228n, zs_258_229, zs_258_230, zs_258_231, zs_258_232, zs_258_233, zs_258_236, zs_258_239, zs_258_242, zs_258_243, zs_258_246, zs_258_248, zs_258_251, zs_258_252, zs_258_255, zs_258_256, zs_258_257, zs_258_257n, zs_258_258, zs_258_259, zs_258_260, zs_258_261, zs_258_263, zs_258_266, zs_258_269, zs_258_272, zs_258_273, zs_258_276, zs_258_277, er, e1, if_neg z1, zty_51, zgd_t, zbk_v, zts_s, List.cons_append, List.nil_append]
          · by_cases c6 : j < 19
            · rw [sw, if_neg c1, if_neg c2, if_neg c3, if_neg c4, if_neg c5, if_pos c6]
              obtain ⟨r, hr, er⟩ := l_217 (sv := sv) (x := x >>> (nI 5 &&& 31)) (n := 2005) (by decide) (by decide)
              obtain ⟨y, w1, ⟨h1, e1, k1, f1⟩, z⟩ := q_252 (sv := sv) (d := d) (c := nI (97 + v)) (x := nI r - nI 1002) hc hg
              have F : zfy m 30000 62000 h h1 := zfy_mono (zfy_fx f1) (by omega) (by omega)
              rcases z with ⟨z1, z2⟩ | ⟨z1, z2⟩
              · refine ⟨h1, w1, false, ?_, k1, F, Or.inr ⟨rfl, z2⟩⟩
                rw [f0]
                simp (disch := first | exact znw_u | exact znw_i) only [zs_258_0, zs_258_1, zs_258_2, zs_258_3, zs_258_5, zs_258_8, zs_258_9, zs_258_11, zs_258_12, zs_258_14, zs_258_15, zs_258_17, zs_258_20, zs_258_21, zs_258_22, zs_258_23, zs_258_24, zs_258_26, zs_258_29, zs_258_120, zs_258_121, zs_258_122, zs_258_123, zs_258_125, zs_258_126, zs_258_127, zs_258_130, zs_258_131, zs_258_134, zs_258_134n, zs_258_136, zs_258_136n, zs_258_138, zs_258_141, zs_258_143, zs_258_146, zs_258_146n, zs_258_147, zs_258_147n, zs_258_149, zs_258_152, zs_258_155, zs_258_156, zs_258_159, zs_258_160, zs_258_161, zs_258_161n, zs_258_162, zs_258_163, zs_258_166, zs_258_169, zs_258_170, zs_258_173, zs_258_174, zs_258_175, zs_258_175n, zs_258_176, zs_258_177, zs_258_180, zs_258_183, zs_258_184, zs_258_187, zs_258_188, zs_258_189, zs_258_189n, zs_258_190, zs_258_191, zs_258_192, zs_258_195, zs_258_198, zs_258_199, zs_258_202, zs_258_203, zs_258_204, zs_258_204n, zs_258_205, zs_258_206, zs_258_207, zs_258_208, zs_258_210, zs_258_211, zs_258_213, zs_258_216, zs_258_219, zs_258_222, zs_258_223, zs_258_226, zs_258_227, zs_258_228, zs_258_228n, zs_258_229, zs_258_230, zs_258_231, zs_258_232, zs_258_233, zs_258_236, zs_258_239, zs_258_242, zs_258_243, zs_258_246, zs_258_248, zs_258_251, zs_258_252, zs_258_255, zs_258_256, zs_258_257, zs_258_257n, zs_258_258, zs_258_259, zs_258_260, zs_258_261, zs_258_263, zs_258_266, zs_258_269, zs_258_272, zs_258_273, zs_258_276, zs_258_277, er, e1, if_pos z1, zty_50, zgd_t, zbk_v, zts_s, List.cons_append, List.nil_append]
              · refine ⟨h1, w1, true, ?_, k1, F, Or.inl ⟨rfl, z2⟩⟩
                rw [t0]
                simp (disch := first | exact znw_u | exact znw_i) only [zs_258_0, zs_258_1, zs_258_2, zs_258_3, zs_258_5, zs_258_8, zs_258_9, zs_258_11, zs_258_12, zs_258_14, zs_258_15, zs_258_17, zs_258_20, zs_258_21, zs_258_22, zs_258_23, zs_258_24, zs_258_26, zs_258_29, zs_258_120, zs_258_121, zs_258_122, zs_258_123, zs_258_125, zs_258_126, zs_258_127, zs_258_130, zs_258_131, zs_258_134, zs_258_134n, zs_258_136, zs_258_136n, zs_258_138, zs_258_141, zs_258_143, zs_258_146, zs_258_146n, zs_258_147, zs_258_147n, zs_258_149, zs_258_152, zs_258_155, zs_258_156, zs_258_159, zs_258_160, zs_258_161, zs_258_161n, zs_258_162, zs_258_163, zs_258_166, zs_258_169, zs_258_170, zs_258_173, zs_258_174, zs_258_175, zs_258_175n, zs_258_176, zs_258_177, zs_258_180, zs_258_183, zs_258_184, zs_258_187, zs_258_188, zs_258_189, zs_258_189n, zs_258_190, zs_258_191, zs_258_192, zs_258_195, zs_258_198, zs_258_199, zs_258_202, zs_258_203, zs_258_204, zs_258_204n, zs_258_205, zs_258_206, zs_258_207, zs_258_208, zs_258_210, zs_258_211, zs_258_213, zs_258_216, zs_258_219, zs_258_222, zs_258_223, zs_258_226, zs_258_227, zs_258_228, zs_258_228n, zs_258_229, zs_258_230, zs_258_231, zs_258_232, zs_258_233, zs_258_236, zs_258_239, zs_258_242, zs_258_243, zs_258_246, zs_258_248, zs_258_251, zs_258_252, zs_258_255, zs_258_256, zs_258_257, zs_258_257n, zs_258_258, zs_258_259, zs_258_260, zs_258_261, zs_258_263, zs_258_266, zs_258_269, zs_258_272, zs_258_273, zs_258_276, zs_258_277, er, e1, if_neg z1, zty_51, zgd_t, zbk_v, zts_s, List.cons_append, List.nil_append]
            · rw [sw, if_neg c1, if_neg c2, if_neg c3, if_neg c4, if_neg c5, if_neg c6]
              obtain ⟨r, hr, er⟩ := l_217 (sv := sv) (x := x >>> (nI 4 &&& 31)) (n := 6) (by decide) (by decide)
              obtain ⟨h1, w1, y, e1, k1, F, z⟩ := fin (by omega) (by omega) (q_225 (sv := sv) (d := d) (x := nI r) hc hg)
              rcases z with ⟨z1, z2⟩ | ⟨z1, z2⟩
              · refine ⟨h1, w1, false, ?_, k1, F, Or.inr ⟨rfl, z2⟩⟩
                rw [f0]
                simp (disch := first | exact znw_u | exact znw_i) only [zs_258_0, zs_258_1, zs_258_2, zs_258_3, zs_258_5, zs_258_8, zs_258_9, zs_258_11, zs_258_12, zs_258_14, zs_258_15, zs_258_17, zs_258_20, zs_258_21, zs_258_22, zs_258_23, zs_258_24, zs_258_26, zs_258_29, zs_258_120, zs_258_121, zs_258_122, zs_258_123, zs_258_125, zs_258_126, zs_258_127, zs_258_130, zs_258_131, zs_258_134, zs_258_134n, zs_258_136, zs_258_136n, zs_258_138, zs_258_141, zs_258_143, zs_258_146, zs_258_146n, zs_258_147, zs_258_147n, zs_258_149, zs_258_152, zs_258_155, zs_258_156, zs_258_159, zs_258_160, zs_258_161, zs_258_161n, zs_258_162, zs_258_163, zs_258_166, zs_258_169, zs_258_170, zs_258_173, zs_258_174, zs_258_175, zs_258_175n, zs_258_176, zs_258_177, zs_258_180, zs_258_183, zs_258_184, zs_258_187, zs_258_188, zs_258_189, zs_258_189n, zs_258_190, zs_258_191, zs_258_192, zs_258_195, zs_258_198, zs_258_199, zs_258_202, zs_258_203, zs_258_204, zs_258_204n, zs_258_205, zs_258_206, zs_258_207, zs_258_208, zs_258_210, zs_258_211, zs_258_213, zs_258_216, zs_258_219, zs_258_222, zs_258_223, zs_258_226, zs_258_227, zs_258_228, zs_258_228n, zs_258_229, zs_258_230, zs_258_231, zs_258_232, zs_258_233, zs_258_236, zs_258_239, zs_258_242, zs_258_243, zs_258_246, zs_258_248, zs_258_251, zs_258_252, zs_258_255, zs_258_256, zs_258_257, zs_258_257n, zs_258_258, zs_258_259, zs_258_260, zs_258_261, zs_258_263, zs_258_266, zs_258_269, zs_258_272, zs_258_273, zs_258_276, zs_258_277, er, e1, if_pos z1, zty_50, zgd_t, zbk_v, zts_s, List.cons_append, List.nil_append]
              · refine ⟨h1, w1, true, ?_, k1, F, Or.inl ⟨rfl, z2⟩⟩
                rw [t0]
                simp (disch := first | exact znw_u | exact znw_i) only [zs_258_0, zs_258_1, zs_258_2, zs_258_3, zs_258_5, zs_258_8, zs_258_9, zs_258_11, zs_258_12, zs_258_14, zs_258_15, zs_258_17, zs_258_20, zs_258_21, zs_258_22, zs_258_23, zs_258_24, zs_258_26, zs_258_29, zs_258_120, zs_258_121, zs_258_122, zs_258_123, zs_258_125, zs_258_126, zs_258_127, zs_258_130, zs_258_131, zs_258_134, zs_258_134n, zs_258_136, zs_258_136n, zs_258_138, zs_258_141, zs_258_143, zs_258_146, zs_258_146n, zs_258_147, zs_258_147n, zs_258_149, zs_258_152, zs_258_155, zs_258_156, zs_258_159, zs_258_160, zs_258_161, zs_258_161n, zs_258_162, zs_258_163, zs_258_166, zs_258_169, zs_258_170, zs_258_173, zs_258_174, zs_258_175, zs_258_175n, zs_258_176, zs_258_177, zs_258_180, zs_258_183, zs_258_184, zs_258_187, zs_258_188, zs_258_189, zs_258_189n, zs_258_190, zs_258_191, zs_258_192, zs_258_195, zs_258_198, zs_258_199, zs_258_202, zs_258_203, zs_258_204, zs_258_204n, zs_258_205, zs_258_206, zs_258_207, zs_258_208, zs_258_210, zs_258_211, zs_258_213, zs_258_216, zs_258_219, zs_258_222, zs_258_223, zs_258_226, zs_258_227, zs_258_228, zs_258_228n, zs_258_229, zs_258_230, zs_258_231, zs_258_232, zs_258_233, zs_258_236, zs_258_239, zs_258_242, zs_258_243, zs_258_246, zs_258_248, zs_258_251, zs_258_252, zs_258_255, zs_258_256, zs_258_257, zs_258_257n, zs_258_258, zs_258_259, zs_258_260, zs_258_261, zs_258_263, zs_258_266, zs_258_269, zs_258_272, zs_258_273, zs_258_276, zs_258_277, er, e1, if_neg z1, zty_51, zgd_t, zbk_v, zts_s, List.cons_append, List.nil_append]
end ZCH

section ZTH
variable {sv : Nat → Value} {d : Nat} {h : zH} {m b : Nat} {xs : List Int32} {w w' : yW}
/-- at -/
theorem l_216 {k : Nat} (hb : h.1 b = (28, xs.map Value.int)) (hx : xs.length ≤ 260) (hk : k < 2 ^ 30) : zcall zP sv (d + 1) 216 [.ref b, .int (nI k)] h = some (.inl (some (.int (xs.getD k 0))), h) := by
  by_cases c : k < xs.length
  · have c1 : nI k < nI xs.length := nI_lt c (by omega)
    have g : ∀ K, zael (28, xs.map Value.int) 28 (nI k) K = K (.int xs[k]) := fun K => zael_r c (by omega)
    rw [ygetD c]
    simp only [zc_216, zs_216_0, zs_216_1, zs_216_1n, zs_216_2, zs_216_3, zs_216_6, zs_216_6n, zs_216_7, zs_216_8, zs_216_9, zs_216_12, zs_216_13, hb, zaln_k (show 20 ≤ 28 by decide), List.length_map, if_pos c1, g]
  · have c1 : ¬ nI k < nI xs.length := nI_nlt (by omega) (by omega)
    have e : xs.getD k 0 = 0 := by rw [List.getD_eq_getElem?_getD, List.getElem?_eq_none (by omega)]; rfl
    rw [e]
    simp only [zc_216, zs_216_0, zs_216_1, zs_216_1n, zs_216_2, zs_216_3, zs_216_6, zs_216_6n, zs_216_7, zs_216_8, zs_216_9, zs_216_12, zs_216_13, hb, zaln_k (show 20 ≤ 28 by decide), List.length_map, if_neg c1]
theorem yadd_k {n : Nat} {bs : List Int32} {t : yT} (hn : n ≤ 3) (hb : yTx n bs t) (hl : (ycur w).1.length < 6) : yaddF (ysb w bs) = (.inl (some (.int (nI (ycur w).1.length))), ysc (yrec (ysb w [])) ((ycur w).1 ++ [t], (ycur w).2)) := by
  have e := yTx_add (show n ≤ 6 by omega) hb
  obtain ⟨_, _, _, _, p5, p6⟩ := yTx_p n bs t hb
  have q5 : 2 ^ (n + 1) ≤ 16 := by
    rcases (show n = 0 ∨ n = 1 ∨ n = 2 ∨ n = 3 by omega) with rfl | rfl | rfl | rfl <;> decide
  have e' : (yadd (ysb w bs).1).1 = some t := by
    show (yadd bs).1 = some t
    rw [e]
  have c6 : ¬ (ycur (ysb w bs)).1.length = 6 := by
    show ¬ (ycur w).1.length = 6
    omega
  unfold yaddF
  rw [e']
  exact (if_neg c6).trans (if_pos ⟨by omega, by omega⟩)
theorem mk_r : ∀ r, r < 1999 → ¬ nI r - nI 999 < -999 ∧ ¬ nI 999 < nI r - nI 999 := by decide +kernel
/-- the texts of a new state -/
theorem mk_1 {X : List Int32 × Int32 × Int32} {N : Nat} (hz : sv 0 = .int (nI 1)) (h3 : zty 4 (sv 3) = true) (hx : xs.length ≤ 260) (hN : N ≤ 4) : ∀ j k (h : zH) (w : yW) (l5 : Slot), znw l5 = true → k + j = N → zBs sv h m b xs → zCls h m w → (ycur w).1.length = k → (ycur w).2 = X → ∃ (h' : zH) (w' : yW) (l5' : Slot), znw l5' = true ∧ zrun zP sv (zcall zP sv (d + 49)) 256 17 [.val (.ref m), .val (.ref b), .val (.int (nI N)), .val (.int (nI k)), .val (.int (nI k)), l5] [] h = zrun zP sv (zcall zP sv (d + 49)) 256 102 [.val (.ref m), .val (.ref b), .val (.int (nI N)), .val (.int (nI N)), .val (.int (nI N)), l5'] [] h' ∧ zBs sv h' m b xs ∧ zCls h' m w' ∧ (ycur w').1.length = N ∧ (ycur w').2 = X ∧ zfy m (30000 * j) (62000 * j) h h' := by
  intro j
  induction j with
  | zero =>
    intro k h w l5 w5 hk hB hc hl hX
    obtain rfl : k = N := by omega
    have c : ¬ nI k < nI k := nI_nlt (Nat.le_refl _) (by omega)
    refine ⟨h, w, l5, w5, ?_, hB, hc, hl, hX, zfy_fx zfx_rfl⟩
    simp (disch := first | exact znw_u | exact znw_i) only [zs_256_17, zs_256_19, zs_256_20, if_neg c]
  | succ j ih =>
    intro k h w l5 w5 hk hB hc hl hX
    have c : nI k < nI N := nI_lt (by omega) (by omega)
    have hm := zCls_m hc
    have e216 : zcall zP sv (d + 49) 216 [.ref b, .int (nI (1 + k))] h = _ := l_216 (d := d + 48) hB.1.2 hx (by omega)
    obtain ⟨D, hD⟩ : ∃ D, d + 49 = D + 10 + 3 := ⟨d + 36, by omega⟩
    obtain ⟨h1, s, a, bs, t, e1, S1, ⟨g1, g2⟩, T1, n1⟩ := l_254 (sv := sv) (d := D) hz h3 3 (by omega) (xs.getD (1 + k) 0 + nI 7919 * nI k) h (zBs_K hB hm) (zBs_D hB hm)
    rw [← hD] at e1
    have hc1 : zCls h1 m w := zCls_new hc n1.1 n1.2.1
    have hm9 := hc.1
    have p60 := S1.2.2.2.1
    have e196 : zcall zP sv (d + 49) 196 [.ref s] h1 = _ := s_196 (d := d + 47) hz S1
    have c60 : ¬ nI 60 < nI bs.length := nI_nlt p60 (by decide)
    have q := l_253 (d := d) hz h3 hc1 S1 (Or.inr (by omega)) (Or.inr (by omega))
    rw [yadd_k (Nat.le_refl 3) T1 (by omega)] at q
    obtain ⟨h2, e2, c2, f2⟩ := q
    have e2' : zcall zP sv (d + 49) 253 [.ref m, .ref s] h1 = some (.inl (some (.int (nI k))), h2) := by rw [← hl]; exact e2
    have F : zfy m 30000 62000 h h2 := zfy_mono (zfy_tr (zfy_fx (zns_fx n1)) (zfy_fx f2)) (by show 1000 * 29 + 69 ≤ 30000; decide) (by show 2100 * 29 + 494 ≤ 62000; decide)
    obtain ⟨h4, w4, l4, q1, q2, q3, q4, q5, q6, q7⟩ := ih (k + 1) h2 _ (.val (.ref s)) rfl (by omega) (zBs_f hB hm F) c2 (by show ((ycur w).1 ++ [t]).length = k + 1; rw [List.length_append, hl]; rfl) (show (ycur w).2 = X from hX)
    refine ⟨h4, w4, l4, q1, ?_, q3, q4, q5, q6, zfy_mono (zfy_tr F q7) (by omega) (by omega)⟩
    rw [← q2]
    rw [zs_256_17, zs_256_19, zs_256_20, if_pos c]
    simp (disch := first | exact znw_u | exact znw_i | exact znw_r | assumption) only [zs_256_0, zs_256_1, zs_256_1n, zs_256_2, zs_256_3, zs_256_6, zs_256_7, zs_256_10, zs_256_11, zs_256_12, zs_256_13, zs_256_14, zs_256_15, zs_256_19, zs_256_20, zs_256_23, zs_256_23n, zs_256_24, zs_256_25, zs_256_27, zs_256_28, zs_256_31, zs_256_34, zs_256_36, zs_256_37, zs_256_38, zs_256_39, zs_256_42, zs_256_42n, zs_256_44, zs_256_44n, zs_256_46, zs_256_49, zs_256_51, zs_256_54, zs_256_57, zs_256_58, zs_256_61, zs_256_63, zs_256_66, zs_256_68, zs_256_71, zs_256_73, zs_256_76, zs_256_79, zs_256_79n, zs_256_81, zs_256_81n, zs_256_82, zs_256_82n, zs_256_84, zs_256_87, zs_256_88, zs_256_91, zs_256_94, zs_256_95, zs_256_96, zs_256_99, zs_256_103, zs_256_105, zs_256_107, zs_256_109, zs_256_112, zs_256_112n, zs_256_113, zs_256_115, zs_256_117, zs_256_118, zs_256_119, zs_256_119n, zs_256_120, zs_256_122, zs_256_124, zs_256_125, zs_256_128, zs_256_131, zs_256_134, zs_256_137, zs_256_138, zs_256_141, zs_256_144, zs_256_145, zs_256_146, zs_256_149, zs_256_152, zs_256_152n, zs_256_153, zs_256_154, zs_256_154n, zs_256_155, zs_256_157, zs_256_160, zs_256_161, zs_256_164, zs_256_165, zs_256_168, zs_256_169, zs_256_172, zs_256_173, zs_256_176, zs_256_177, nI_add, e216, e1, zStr_rc S1, e196, if_neg c60, e2', zbk_v, zts_s, zts_n, ↓reduceIte, List.cons_append, List.nil_append]
/-- the letters of a new state -/
theorem mk_2 {N : Nat} {l5 : Slot} (hx : xs.length ≤ 260) : ∀ j k (h : zH) (w : yW), k + j = 6 → zBs sv h m b xs → zCls h m w → (∀ i, k ≤ i → i < 6 → yg (ycur w).2.1 (nI i) = 0) → yLv (ycur w) → ∃ (h' : zH) (w' : yW), zrun zP sv (zcall zP sv (d + 49)) 256 105 [.val (.ref m), .val (.ref b), .val (.int (nI N)), .val (.int (nI N)), .val (.int (nI k)), l5] [] h = zrun zP sv (zcall zP sv (d + 49)) 256 152 [.val (.ref m), .val (.ref b), .val (.int (nI N)), .val (.int (nI N)), .val (.int (nI 6)), l5] [] h' ∧ zBs sv h' m b xs ∧ zCls h' m w' ∧ (ycur w').1 = (ycur w).1 ∧ yLv (ycur w') ∧ (ycur w').2.2 = (ycur w).2.2 ∧ zfy m 0 0 h h' := by
  intro j
  induction j with
  | zero =>
    intro k h w hk hB hc h0 hv
    obtain rfl : k = 6 := by omega
    have c : ¬ nI 6 < nI 6 := nI_nlt (Nat.le_refl _) (by decide)
    refine ⟨h, w, ?_, hB, hc, rfl, hv, rfl, zfy_fx zfx_rfl⟩
    simp (disch := first | exact znw_u | exact znw_i) only [zs_256_105, zs_256_107, zs_256_109, if_neg c]
  | succ j ih =>
    intro k h w hk hB hc h0 hv
    have c : nI k < nI 6 := nI_lt (by omega) (by decide)
    have ec := ytx_c k (by omega)
    rw [nI_add] at ec
    have e216 : zcall zP sv (d + 49) 216 [.ref b, .int (nI (8 + k))] h = _ := l_216 (d := d + 48) hB.1.2 hx (by omega)
    obtain ⟨r, hr, er⟩ := l_217 (sv := sv) (x := xs.getD (8 + k) 0) (n := 1999) (by decide) (by decide)
    obtain ⟨r1, r2⟩ := mk_r r hr
    obtain ⟨h1, e1, c1, f1⟩ := h_252v hc (d_31 (sv := sv) (d := d + 42) (c := nI (97 + k)) hc (ytx_l k (by omega)).2.2 r1 r2)
    rw [nI_sub', h0 k (Nat.le_refl _) (by omega)] at e1
    rw [nI_sub'] at c1
    have F := zfy_fx f1
    obtain ⟨h2, w2, q1, q2, q3, q4, q5, q6, q7⟩ := ih (k + 1) h1 _ (by omega) (zBs_f hB (zCls_m hc) F) c1 (fun i hi1 hi2 => by
      have g := h0 i (by omega) hi2
      show yg (ys (ycur w).2.1 (nI k) (nI r - nI 999)) (nI i) = 0
      rw [ys_k (by omega), yg_k (by omega), List.getD_eq_getElem?_getD, List.getElem?_set_ne (by omega), ← List.getD_eq_getElem?_getD, ← yg_k (by omega)]
      exact g) (fun y hy => by
      rcases ys_mem (show y ∈ ys (ycur w).2.1 (nI k) (nI r - nI 999) from hy) with q | q
      · exact hv y q
      · rw [q]
        exact fun z => r2 (by rw [z]; exact nI_lt (by decide) (by decide)))
    refine ⟨h2, w2, ?_, q2, q3, q4, q5, q6, zfy_tr F q7⟩
    rw [← q1]
    rw [zs_256_105, zs_256_107, zs_256_109, if_pos c]
    simp (disch := first | exact znw_u | exact znw_i) only [zs_256_0, zs_256_1, zs_256_1n, zs_256_2, zs_256_3, zs_256_6, zs_256_7, zs_256_10, zs_256_11, zs_256_12, zs_256_13, zs_256_14, zs_256_15, zs_256_17, zs_256_19, zs_256_20, zs_256_23, zs_256_23n, zs_256_24, zs_256_25, zs_256_27, zs_256_28, zs_256_31, zs_256_34, zs_256_36, zs_256_37, zs_256_38, zs_256_39, zs_256_42, zs_256_42n, zs_256_44, zs_256_44n, zs_256_46, zs_256_49, zs_256_51, zs_256_54, zs_256_57, zs_256_58, zs_256_61, zs_256_63, zs_256_66, zs_256_68, zs_256_71, zs_256_73, zs_256_76, zs_256_79, zs_256_79n, zs_256_81, zs_256_81n, zs_256_82, zs_256_82n, zs_256_84, zs_256_87, zs_256_88, zs_256_91, zs_256_94, zs_256_95, zs_256_96, zs_256_99, zs_256_102, zs_256_103, zs_256_107, zs_256_109, zs_256_112, zs_256_112n, zs_256_113, zs_256_115, zs_256_117, zs_256_118, zs_256_119, zs_256_119n, zs_256_120, zs_256_122, zs_256_124, zs_256_125, zs_256_128, zs_256_131, zs_256_134, zs_256_137, zs_256_138, zs_256_141, zs_256_144, zs_256_145, zs_256_146, zs_256_149, zs_256_153, zs_256_154, zs_256_154n, zs_256_155, zs_256_157, zs_256_160, zs_256_161, zs_256_164, zs_256_165, zs_256_168, zs_256_169, zs_256_172, zs_256_173, zs_256_176, zs_256_177, nI_add, ec, e216, er, e1, nI_p1, zbk_v, zts_s, zts_n, ↓reduceIte, List.cons_append, List.nil_append]
/-- makes -/
theorem l_256 (hz : sv 0 = .int (nI 1)) (h3 : zty 4 (sv 3) = true) (hx : xs.length ≤ 260) (hB : zBs sv h m b xs) (hc : zCls h m w) (hA : ycur w = yA0) : ∃ (h' : zH) (w' : yW), zcall zP sv (d + 50) 256 [.ref m, .ref b] h = some (.inl (some (.int (nI 1))), h') ∧ zBs sv h' m b xs ∧ zCls h' m w' ∧ zfy m 120000 248000 h h' ∧ yGd (ycur w') ∧ 2 ≤ (ycur w').1.length ∧ (ycur w').1.length ≤ 4 := by
  have e0 : zcall zP sv (d + 49) 216 [.ref b, .int (nI 0)] h = _ := l_216 (d := d + 48) hB.1.2 hx (by decide)
  rw [nI_0] at e0
  obtain ⟨r, hr, er⟩ := l_217 (sv := sv) (x := xs.getD 0 0) (n := 3) (by decide) (by decide)
  obtain ⟨h1, w1, l5, k1, k2, k3, k4, k5, k6, k7⟩ := mk_1 (sv := sv) (d := d) (m := m) (b := b) (xs := xs) (X := (List.replicate 6 0, nI 2, 0)) (N := 2 + r) hz h3 hx (by omega) (2 + r) 0 h w .unset rfl (by omega) hB hc (by rw [hA]; rfl) (by rw [hA]; rfl)
  rw [nI_0] at k2
  obtain ⟨h2, w2, q1, q2, q3, q4, q5, q6, q7⟩ := mk_2 (sv := sv) (d := d) (m := m) (b := b) (xs := xs) (N := 2 + r) (l5 := l5) hx 6 0 h1 w1 (by omega) k3 k4 (fun i _ hi => by
    rw [k6, yg_k (by omega)]
    rcases (show i = 0 ∨ i = 1 ∨ i = 2 ∨ i = 3 ∨ i = 4 ∨ i = 5 by omega) with rfl | rfl | rfl | rfl | rfl | rfl <;> rfl) (fun y hy => by
    rw [k6] at hy
    rw [List.eq_of_mem_replicate (show y ∈ List.replicate 6 0 from hy)]
    decide +kernel)
  rw [nI_0] at q1
  have e15 : zcall zP sv (d + 49) 216 [.ref b, .int (nI 15)] h2 = _ := l_216 (d := d + 48) q2.1.2 hx (by decide)
  obtain ⟨u, hu, eu⟩ := l_217 (sv := sv) (x := xs.getD 15 0) (n := 4) (by decide) (by decide)
  have q6' : (ycur w2).2.2.1 = nI 2 := by rw [q6, k6]
  have u1 : ¬ nI (1 + u) < nI 1 := nI_nlt (by omega) (by omega)
  have u2 : ¬ nI 4 < nI (1 + u) := nI_nlt (by omega) (by decide)
  obtain ⟨h3', e3, c3, f3⟩ := h_225v q3 (d_32 (sv := sv) (d := d + 42) q3 u1 u2)
  rw [q6'] at e3
  refine ⟨h3', _, ?_, zBs_f q2 (zCls_m q3) (zfy_fx f3), c3, zfy_mono (zfy_tr (zfy_tr k7 q7) (zfy_fx f3)) (by omega) (by omega), ⟨⟨1 + u, by omega, by omega, rfl⟩, show yLv _ from q5⟩, by show 2 ≤ (ycur w2).1.length; rw [q4, k5]; omega, by show (ycur w2).1.length ≤ 4; rw [q4, k5]; omega⟩
  have p1 : zcall zP sv (d + 50) 256 [.ref m, .ref b] h = zrun zP sv (zcall zP sv (d + 49)) 256 17 [.val (.ref m), .val (.ref b), .val (.int (nI (2 + r))), .val (.int 0), .val (.int 0), .unset] [] h := by
    simp (disch := first | exact znw_u | exact znw_i) only [zc_256, zs_256_0, zs_256_1, zs_256_1n, zs_256_2, zs_256_3, zs_256_6, zs_256_7, zs_256_10, zs_256_11, zs_256_12, zs_256_13, zs_256_14, zs_256_15, zs_256_19, zs_256_20, zs_256_23, zs_256_23n, zs_256_24, zs_256_25, zs_256_27, zs_256_28, zs_256_31, zs_256_34, zs_256_36, zs_256_37, zs_256_38, zs_256_39, zs_256_42, zs_256_42n, zs_256_44, zs_256_44n, zs_256_46, zs_256_49, zs_256_51, zs_256_54, zs_256_57, zs_256_58, zs_256_61, zs_256_63, zs_256_66, zs_256_68, zs_256_71, zs_256_73, zs_256_76, zs_256_79, zs_256_79n, zs_256_81, zs_256_81n, zs_256_82, zs_256_82n, zs_256_84, zs_256_87, zs_256_88, zs_256_91, zs_256_94, zs_256_95, zs_256_96, zs_256_99, zs_256_102, zs_256_103, zs_256_105, zs_256_107, zs_256_109, zs_256_112, zs_256_112n, zs_256_113, zs_256_115, zs_256_117, zs_256_118, zs_256_119, zs_256_119n, zs_256_120, zs_256_122, zs_256_124, zs_256_125, zs_256_128, zs_256_131, zs_256_134, zs_256_137, zs_256_138, zs_256_141, zs_256_144, zs_256_145, zs_256_146, zs_256_149, zs_256_152, zs_256_152n, zs_256_153, zs_256_154, zs_256_154n, zs_256_155, zs_256_157, zs_256_160, zs_256_161, zs_256_164, zs_256_165, zs_256_168, zs_256_169, zs_256_172, zs_256_173, zs_256_176, zs_256_177, nI_add, e0, er, zbk_v, zts_s, zts_n, ↓reduceIte, List.cons_append, List.nil_append]
  have p2 : zrun zP sv (zcall zP sv (d + 49)) 256 102 [.val (.ref m), .val (.ref b), .val (.int (nI (2 + r))), .val (.int (nI (2 + r))), .val (.int (nI (2 + r))), l5] [] h1 = zrun zP sv (zcall zP sv (d + 49)) 256 105 [.val (.ref m), .val (.ref b), .val (.int (nI (2 + r))), .val (.int (nI (2 + r))), .val (.int 0), l5] [] h1 := by
    simp (disch := first | exact znw_u | exact znw_i | exact znw_r | assumption) only [zs_256_102, zs_256_103]
  rw [p1, k2, p2, q1]
  simp (disch := first | exact znw_u | exact znw_i | exact znw_r | assumption) only [zs_256_0, zs_256_1, zs_256_1n, zs_256_2, zs_256_3, zs_256_6, zs_256_7, zs_256_10, zs_256_11, zs_256_12, zs_256_13, zs_256_14, zs_256_15, zs_256_19, zs_256_20, zs_256_23, zs_256_23n, zs_256_24, zs_256_25, zs_256_27, zs_256_28, zs_256_31, zs_256_34, zs_256_36, zs_256_37, zs_256_38, zs_256_39, zs_256_42, zs_256_42n, zs_256_44, zs_256_44n, zs_256_46, zs_256_49, zs_256_51, zs_256_54, zs_256_57, zs_256_58, zs_256_61, zs_256_63, zs_256_66, zs_256_68, zs_256_71, zs_256_73, zs_256_76, zs_256_79, zs_256_79n, zs_256_81, zs_256_81n, zs_256_82, zs_256_82n, zs_256_84, zs_256_87, zs_256_88, zs_256_91, zs_256_94, zs_256_95, zs_256_96, zs_256_99, zs_256_102, zs_256_103, zs_256_107, zs_256_109, zs_256_112, zs_256_112n, zs_256_113, zs_256_115, zs_256_117, zs_256_118, zs_256_119, zs_256_119n, zs_256_120, zs_256_122, zs_256_124, zs_256_125, zs_256_128, zs_256_131, zs_256_134, zs_256_137, zs_256_138, zs_256_141, zs_256_144, zs_256_145, zs_256_146, zs_256_149, zs_256_152, zs_256_152n, zs_256_153, zs_256_154, zs_256_154n, zs_256_155, zs_256_157, zs_256_160, zs_256_161, zs_256_164, zs_256_165, zs_256_168, zs_256_169, zs_256_172, zs_256_173, zs_256_176, zs_256_177, nI_add, e15, eu, e3, zty_51, zgd_t, zbk_v, zts_s, zts_n, ↓reduceIte, List.cons_append, List.nil_append]
theorem ya_1 (g : Nat) : ypa [nI 97, nI 43] (g + 5) 0 none 0 0 = (none, 2) := by
  have l : yLf [nI 97] (ymk (nI 118) (nI 97) .leaf .leaf) := Or.inl ⟨0, by decide, rfl, rfl⟩
  have a1 : yAt [nI 97, nI 43] 0 [nI 97] := fun i x hx => by
    have hi := (List.getElem?_eq_some_iff.mp hx).1
    obtain rfl : i = 0 := by
      have : i < 1 := hi
      omega
    exact Option.some.inj hx
  have c1 : ycat [nI 97, nI 43] 1 = nI 43 := rfl
  have u1 : ypa [nI 97, nI 43] (g + 3) 4 none 0 0 = (some (ymk (nI 118) (nI 97) .leaf .leaf), 1) := yG_4 (by show ¬ nI 97 = nI 45; decide +kernel) (yLf_pu l a1 (by show yisd (nI 43) = false; decide +kernel))
  have c2 : ycat [nI 97, nI 43] 2 = nI 32 := ycat_ge (by decide)
  have u2 : ypa [nI 97, nI 43] (g + 2) 4 none 0 2 = (none, 2) := by
    have e : ypu [nI 97, nI 43] (g + 1) 0 2 = (none, 2) := by
      unfold ypu
      rw [c2, if_neg (fun q => y32.2.2.2.1 q.1), if_neg (by rw [y32.2.2.2.2.2.1]; decide), if_neg (by rw [y32.2.2.2.2.2.2]; decide)]
    rw [ypa_4, yng_0 (by rw [c2]; exact y32.2.1), Nat.add_zero, e]
    rfl
  rw [ypa_0, ypa_2, u1]
  show ypa [nI 97, nI 43] (g + 4) 1 (ypa [nI 97, nI 43] (g + 3) 3 (some (ymk (nI 118) (nI 97) .leaf .leaf)) 0 1).1 0 (ypa [nI 97, nI 43] (g + 3) 3 (some (ymk (nI 118) (nI 97) .leaf .leaf)) 0 1).2 = _
  rw [ypa_3s, if_neg (by rw [c1]; decide +kernel)]
  show ypa [nI 97, nI 43] (g + 4) 1 (some (ymk (nI 118) (nI 97) .leaf .leaf)) 0 1 = _
  rw [ypa_1s, if_pos (Or.inl c1), ypa_2, u2]
  show ypa [nI 97, nI 43] (g + 3) 1 ((ypa [nI 97, nI 43] (g + 2) 3 none 0 2).1.map (fun u => ymk (ycat [nI 97, nI 43] 1) 0 (ymk (nI 118) (nI 97) .leaf .leaf) u)) 0 (ypa [nI 97, nI 43] (g + 2) 3 none 0 2).2 = _
  rw [ypa_3n]
  show ypa [nI 97, nI 43] (g + 3) 1 none 0 2 = _
  rw [ypa_1n]
theorem yadd_1 : yadd [nI 97, nI 43] = (none, 2) := by
  have e : ypa [nI 97, nI 43] 4000 0 none 0 0 = (none, 2) := ya_1 3995
  unfold yadd
  rw [e]
  exact if_pos rfl ▸ rfl
def yA2 : List Int32 := [nI 45, nI 45, nI 40, nI 45, nI 45, nI 45, nI 45, nI 45, nI 45, nI 97, nI 41]
theorem ya_2 (g : Nat) : ypa yA2 (g + 8) 0 none 0 0 = (some (ywr 2 (ywr 6 (ymk (nI 118) (nI 97) .leaf .leaf))), 11) := by
  have l : yLf [nI 97] (ymk (nI 118) (nI 97) .leaf .leaf) := Or.inl ⟨0, by decide, rfl, rfl⟩
  have a1 : yAt yA2 9 [nI 97] := fun i x hx => by
    have hi := (List.getElem?_eq_some_iff.mp hx).1
    obtain rfl : i = 0 := by
      have : i < 1 := hi
      omega
    exact Option.some.inj hx
  have c10 : ycat yA2 10 = nI 41 := rfl
  have c11 : ycat yA2 11 = nI 32 := ycat_ge (by decide)
  have n3 : yng yA2 3 6 = 6 := by decide +kernel
  have n0 : yng yA2 0 6 = 2 := by decide +kernel
  have u1 : ypa yA2 (g + 3) 4 none 1 3 = (some (ywr 6 (ymk (nI 118) (nI 97) .leaf .leaf)), 10) := by
    have e : ypu yA2 (g + 2) 1 (3 + 6) = (some (ymk (nI 118) (nI 97) .leaf .leaf), 10) := yLf_pu l a1 (by show yisd (nI 41) = false; decide +kernel)
    rw [ypa_4, n3, e]
    rfl
  have u2 : ypa yA2 (g + 5) 0 none 1 3 = (some (ywr 6 (ymk (nI 118) (nI 97) .leaf .leaf)), 10) := yG_top (f := g + 1) u1 (by rw [c10]; exact yend_41)
  have u3 : ypa yA2 (g + 6) 4 none 0 0 = (some (ywr 2 (ywr 6 (ymk (nI 118) (nI 97) .leaf .leaf))), 11) := by
    have e : ypu yA2 (g + 5) 0 (0 + 2) = (some (ywr 6 (ymk (nI 118) (nI 97) .leaf .leaf)), 11) := by
      have c2 : ycat yA2 (0 + 2) = nI 40 := rfl
      unfold ypu
      rw [if_pos ⟨c2, by decide⟩]
      show (if (ypa yA2 (g + 5) 0 none 1 3).1.isSome = true ∧ ycat yA2 (ypa yA2 (g + 5) 0 none 1 3).2 = nI 41 then ((ypa yA2 (g + 5) 0 none 1 3).1, (ypa yA2 (g + 5) 0 none 1 3).2 + 1) else (none, (ypa yA2 (g + 5) 0 none 1 3).2)) = _
      rw [u2]
      exact if_pos ⟨rfl, c10⟩
    rw [ypa_4, n0, e]
    rfl
  exact yG_top (f := g + 4) u3 (by rw [c11]; exact yend_32)
theorem yadd_2 : (yadd yA2).1 = some (ywr 2 (ywr 6 (ymk (nI 118) (nI 97) .leaf .leaf))) := by
  have e : ypa yA2 4000 0 none 0 0 = (some (ywr 2 (ywr 6 (ymk (nI 118) (nI 97) .leaf .leaf))), 11) := ya_2 3992
  unfold yadd
  rw [e]
  exact (if_pos (show (11 : Nat) = yA2.length from rfl) : (if (11 : Nat) = yA2.length then (some (ywr 2 (ywr 6 (ymk (nI 118) (nI 97) .leaf .leaf))) : Option yT) else none) = _)
theorem yaddF_1 : yaddF (ysb w [nI 97, nI 43]) = (.inr 1, yse (ysb w []) (nI 2)) := by
  have e : yadd (ysb w [nI 97, nI 43]).1 = (none, 2) := yadd_1
  unfold yaddF
  rw [e]
  rfl
theorem yaddF_2 (hl : ¬ (ycur w).1.length = 6) : yaddF (ysb w yA2) = (.inr 3, ysb w []) := by
  have e : (yadd (ysb w yA2).1).1 = some (ywr 2 (ywr 6 (ymk (nI 118) (nI 97) .leaf .leaf))) := yadd_2
  unfold yaddF
  rw [e]
  exact (if_neg (show ¬ (ycur (ysb w yA2)).1.length = 6 from hl)).trans (if_neg (fun q => absurd q.2 (by show ¬ 9 ≤ 8; decide)))
theorem yaddF_6 {bs : List Int32} {t : yT} (e : (yadd bs).1 = some t) (hl : (ycur w).1.length = 6) : yaddF (ysb w bs) = (.inr 0, ysb w []) := by
  have e' : (yadd (ysb w bs).1).1 = some t := e
  unfold yaddF
  rw [e']
  exact if_pos (show (ycur (ysb w bs)).1.length = 6 from hl)
theorem ymo_s {a : yT} : ymo a a = 0 := by
  unfold ymo
  rw [if_pos (Int32.sub_self _), Int32.sub_self]
theorem ybe_s {T : List yT} {f : Nat} : ybe T f f = false := by
  unfold ybe
  rcases T[f]? with _ | a
  · rfl
  · show (decide (0 < ymo a a) || (decide (ymo a a = 0) && decide (nI f < nI f))) = false
    rw [ymo_s, decide_eq_false (show ¬ nI f < nI f from Int32.lt_irrefl), Bool.and_false, Bool.or_false]
    decide
theorem ybn_lt {T : List yT} {f n : Nat} (hf : f < n) : ybn T f n < n := by
  unfold ybn
  have h1 : (List.range n).countP (ybe T f) ≤ (List.range n).length := List.countP_le_length
  rw [List.length_range] at h1
  rcases Nat.lt_or_ge ((List.range n).countP (ybe T f)) n with q | q
  · exact q
  · have e : (List.range n).countP (ybe T f) = (List.range n).length := by rw [List.length_range]; omega
    have := List.countP_eq_length.mp e f (List.mem_range.mpr hf)
    rw [ybe_s] at this
    cases this
theorem yrk_n {T : List yT} (hT : T.length ≤ 6) : ∀ n k, k + n = T.length → yrk T (nI T.length) k n = none
  | 0, k, hk => rfl
  | n + 1, k, hk => by
    have q := ybn_lt (T := T) (f := k) (n := T.length) (by omega)
    show (if nI (ybn T k T.length) = nI T.length then some k else yrk T (nI T.length) (k + 1) n) = none
    rw [if_neg (fun e => by have := (nI_eq (by omega) (by omega)).mp e; omega)]
    exact yrk_n hT n (k + 1) (by omega)
theorem yrk_m {T : List yT} (hT : T.length ≤ 6) : ∀ n k, k + n = T.length → yrk T (-1) k n = none
  | 0, k, hk => rfl
  | n + 1, k, hk => by
    have q := ybn_lt (T := T) (f := k) (n := T.length) (by omega)
    show (if nI (ybn T k T.length) = -1 then some k else yrk T (-1) (k + 1) n) = none
    rw [if_neg (fun e => by
      have p : ¬ nI (ybn T k T.length) < 0 := nI_pos (by omega)
      rw [e] at p
      exact p (by decide))]
    exact yrk_m hT n (k + 1) (by omega)
theorem lg_cmp_s {x : Int64} : lg_cmp x x = 0 := by
  unfold lg_cmp
  simp
theorem yfc_s : Op.cmpValue (FP.fcmp 3296346112 3296346112) .l = 0 := by decide +kernel
theorem th_222 {t : yT} (hc : zCls h m w) (ht : (ycur w).1[0]? = some t) : zEnd h m (zcall zP sv (d + 49) 222 [.ref m, .int 0, .int (nI 103)] h) 9 134 (.inl (some (.int (-1002)))) w := by
  have e := d_29 (sv := sv) (d := d) (c := nI 103) hc ht
  have q : yderF w t (nI 103) = (.inr 1, w) := if_pos y103
  rw [q, nI_0] at e
  exact h_222e1 hc e
theorem th_223m {t : yT} {y : Int32} (hc : zCls h m w) (ht : (ycur w).1[0]? = some t) (hy : y < 0 ∨ ¬ y < nI (ycur w).1.length) : zEnd h m (zcall zP sv (d + 49) 223 [.ref m, .int 0, .int (nI 97), .int y] h) 1 6 (.inl (some (.int (-1001)))) w := by
  have e := d_30m (sv := sv) (d := d) (c := nI 97) hc ht hy
  rw [nI_0] at e
  exact h_223e2 hc e
theorem th_223 {t : yT} (hc : zCls h m w) (ht : (ycur w).1[0]? = some t) : zEnd h m (zcall zP sv (d + 49) 223 [.ref m, .int 0, .int (nI 103), .int 0] h) 9 134 (.inl (some (.int (-1002)))) w := by
  have e := d_30 (sv := sv) (d := d) (c := nI 103) hc ht ht
  have q : yinsF w 0 t (nI 103) t = (.inr 1, w) := if_pos y103
  rw [q, nI_0] at e
  exact h_223e1 hc e
theorem th_231 {t : yT} {y : Int32} (hc : zCls h m w) (ht : (ycur w).1[0]? = some t) (hy : y < 0 ∨ ¬ y < nI (ycur w).1.length) : zEnd h m (zcall zP sv (d + 49) 231 [.ref m, .int 0, .int y] h) 1 6 (.inl (some (.int (-1001)))) w := by
  have e := d_41m (sv := sv) (d := d) hc ht hy
  rw [nI_0] at e
  exact h_231e2 hc e
theorem th_234 {t : yT} {y : Int32} (hc : zCls h m w) (ht : (ycur w).1[0]? = some t) (hy : y < 0 ∨ ¬ y < nI (ycur w).1.length) : zEnd h m (zcall zP sv (d + 49) 234 [.ref m, .int 0, .int y] h) 1 6 (.inl (some (.int (-1001)))) w := by
  have e := d_44m (sv := sv) (d := d) hc ht hy
  rw [nI_0] at e
  exact h_234e2 hc e
/-- thrown, to the loop -/
theorem th_a {n : Nat} {x1 : Int64} {x4 : Int32} {t : yT} (hz : sv 0 = .int (nI 1)) (h3 : zty 4 (sv 3) = true) (hB : zBs sv h m b xs) (hc : zCls h m w) (hn : (ycur w).1.length = n) (h4 : n ≤ 4) (ht : (ycur w).1[0]? = some t) : ∃ h', zrun zP sv (zcall zP sv (d + 49)) 259 16 [.val (.ref m), .val (.long x1), .second, .val (.int (nI n)), .val (.int x4), .unset, .unset, .unset] [] h = zrun zP sv (zcall zP sv (d + 49)) 259 240 [.val (.ref m), .val (.long x1), .second, .val (.int (nI n)), .val (.int x4), .val (.int (nI 1)), .unset, .unset] [] h' ∧ zCls h' m (ysb (yse (ysb w []) (nI 2)) []) ∧ zfx m (m + 119) 200 1500 h h' := by
  have hm := zCls_m hc
  have hm9 := hc.1
  subst hn
  have hnn : ¬ nI (ycur w).1.length < nI (ycur w).1.length := nI_nlt (Nat.le_refl _) (by omega)
  have cn6 : nI (ycur w).1.length < nI 6 := nI_lt (by omega) (by decide)
  obtain ⟨s7, a7, k7, u7, v7, o7, p7⟩ := hB.2.2 7 (by decide)
  have k7' : sv 11 = .ref s7 := k7
  have S7' : zStr h s7 a7 [nI 97, nI 43] := ⟨Or.inr ⟨u7, v7⟩, by omega, by omega, (zbyt_ok (i := 7) (by decide)).1, (zbyt_ok (i := 7) (by decide)).2⟩
  have L1 := l_253 (d := d) hz h3 hc S7' (Or.inl o7) (Or.inl p7)
  rw [yaddF_1] at L1
  obtain ⟨h1, e1, c1, f1⟩ := L1
  have e1' : zcall zP sv (d + 49) 253 [.ref m, .ref s7] h = some (.inl (some (.int (-1001))), h1) := e1
  have c1' : zCls h1 m (yse (ysb w []) (nI 2)) := c1
  obtain ⟨h2, e2, c2, f2⟩ := h_249v c1' (d_65 (sv := sv) (d := d) c1' (show ¬ nI 2 = -1 by decide +kernel))
  have e2' : zcall zP sv (d + 49) 249 [.ref m] h1 = some (.inl (some (.int (nI 2))), h2) := e2
  have F2 := zfx_tr f1 f2
  have B2 := zBs_f hB hm (zfy_fx F2)
  obtain ⟨s8, a8, k8, u8, v8, o8, p8⟩ := B2.2.2 8 (by decide)
  have k8' : sv 12 = .ref s8 := k8
  have m2 := zCls_m c2
  have S8' : zStr h2 s8 a8 yA2 := ⟨Or.inr ⟨u8, v8⟩, by omega, by omega, (zbyt_ok (i := 8) (by decide)).1, (zbyt_ok (i := 8) (by decide)).2⟩
  have L3 := l_253 (d := d) hz h3 c2 S8' (Or.inl o8) (Or.inl p8)
  rw [yaddF_2 (w := yse (ysb w []) (nI 2)) (show ¬ (ycur w).1.length = 6 by omega)] at L3
  obtain ⟨h3', e3, c3, f3⟩ := L3
  have e3' : zcall zP sv (d + 49) 253 [.ref m, .ref s8] h2 = some (.inl (some (.int (-1003))), h3') := e3
  have c3' : zCls h3' m (ysb (yse (ysb w []) (nI 2)) []) := c3
  have ht3 : (ycur (ysb (yse (ysb w []) (nI 2)) [])).1[0]? = some t := ht
  obtain ⟨h4, e4, c4, f4⟩ := h_220e2 c3' (d_27n (sv := sv) (d := d + 42) c3' (Or.inr hnn))
  obtain ⟨h5, e5, c5, f5⟩ := h_221e2 c4 (d_28n (sv := sv) (d := d + 1) (x := -1) c4 (Or.inl (by decide)))
  obtain ⟨h6, e6, c6, f6⟩ := h_222e2 c5 (d_29n (sv := sv) (d := d) (c := nI 103) c5 (Or.inr hnn))
  obtain ⟨h7, e7, c7, f7⟩ := th_222 (sv := sv) (d := d) c6 ht3
  obtain ⟨h8, e8, c8, f8⟩ := h_223e2 c7 (d_30n (sv := sv) (d := d) (c := nI 103) (y := 0) c7 (Or.inr hnn))
  obtain ⟨h9, e9, c9, f9⟩ := th_223m (sv := sv) (d := d) c8 ht3 (Or.inr hnn)
  obtain ⟨h10, e10, c10, f10⟩ := th_223 (sv := sv) (d := d) c9 ht3
  obtain ⟨h11, e11, c11, f11⟩ := h_252e1 c10 (d_31n (sv := sv) (d := d + 42) (c := nI 97) (x := nI 1000) c10 (Or.inr (Or.inr (nI_lt (by decide) (by decide)))))
  obtain ⟨h12, e12, c12, f12⟩ := h_252e1 c11 (d_31n (sv := sv) (d := d + 42) (c := nI 97) (x := (-1000)) c11 (Or.inr (Or.inl (by decide))))
  obtain ⟨h13, e13, c13, f13⟩ := h_252e1 c12 (d_31n (sv := sv) (d := d + 42) (c := nI 65) (x := 0) c12 (Or.inl (by decide +kernel)))
  obtain ⟨h14, e14, c14, f14⟩ := h_225e1 c13 (d_32n (sv := sv) (d := d + 42) (x := 0) c13 (Or.inl (by decide +kernel)))
  obtain ⟨h15, e15, c15, f15⟩ := h_225e1 c14 (d_32n (sv := sv) (d := d + 42) (x := nI 5) c14 (Or.inr (nI_lt (by decide) (by decide))))
  refine ⟨h15, ?_, c15, zfx_mono (zfx_tr (zfx_tr (zfx_tr (zfx_tr (zfx_tr (zfx_tr (zfx_tr (zfx_tr (zfx_tr (zfx_tr (zfx_tr (zfx_tr (zfx_tr F2 f3) f4) f5) f6) f7) f8) f9) f10) f11) f12) f13) f14) f15) (Nat.le_refl _) (Nat.le_refl _) (by omega) (by omega)⟩
  simp (disch := first | exact znw_u | exact znw_i) only [zs_259_0, zs_259_0n, zs_259_1, zs_259_4, zs_259_4s, zs_259_5, zs_259_5n, zs_259_6, zs_259_9, zs_259_10, zs_259_10n, zs_259_11, zs_259_14, zs_259_17, zs_259_20, zs_259_23, zs_259_26, zs_259_29, zs_259_29n, zs_259_30, zs_259_33, zs_259_34, zs_259_37, zs_259_37n, zs_259_38, zs_259_41, zs_259_44, zs_259_45, zs_259_47, zs_259_50, zs_259_53, zs_259_56, zs_259_59, zs_259_62, zs_259_62n, zs_259_63, zs_259_64, zs_259_67, zs_259_70, zs_259_73, zs_259_73n, zs_259_74, zs_259_75, zs_259_78, zs_259_81, zs_259_84, zs_259_84n, zs_259_85, zs_259_86, zs_259_88, zs_259_91, zs_259_94, zs_259_97, zs_259_97n, zs_259_98, zs_259_99, zs_259_101, zs_259_104, zs_259_107, zs_259_110, zs_259_111, zs_259_113, zs_259_116, zs_259_116n, zs_259_117, zs_259_118, zs_259_120, zs_259_123, zs_259_126, zs_259_129, zs_259_129n, zs_259_130, zs_259_131, zs_259_133, zs_259_134, zs_259_137, zs_259_140, zs_259_143, zs_259_143n, zs_259_144, zs_259_145, zs_259_147, zs_259_148, zs_259_151, zs_259_154, zs_259_157, zs_259_157n, zs_259_158, zs_259_159, zs_259_161, zs_259_162, zs_259_165, zs_259_168, zs_259_171, zs_259_171n, zs_259_172, zs_259_174, zs_259_177, zs_259_180, zs_259_182, zs_259_185, zs_259_185n, zs_259_186, zs_259_188, zs_259_191, zs_259_194, zs_259_196, zs_259_199, zs_259_199n, zs_259_200, zs_259_202, zs_259_203, zs_259_206, zs_259_208, zs_259_211, zs_259_211n, zs_259_212, zs_259_213, zs_259_216, zs_259_219, zs_259_222, zs_259_222n, zs_259_223, zs_259_224, zs_259_227, zs_259_230, zs_259_233, zs_259_234, zs_259_237, zs_259_238, zs_259_241, zs_259_243, zs_259_245, zs_259_246, zs_259_249, zs_259_251, zs_259_254, zs_259_254n, zs_259_255, zs_259_257, zs_259_258, zs_259_261, zs_259_264, zs_259_267, zs_259_267n, zs_259_268, zs_259_270, zs_259_270n, zs_259_271, zs_259_273, zs_259_276, zs_259_279, zs_259_282, zs_259_285, zs_259_285n, zs_259_286, zs_259_288, zs_259_290, zs_259_293, zs_259_296, zs_259_299, zs_259_299n, zs_259_300, zs_259_302, zs_259_302n, zs_259_303, zs_259_305, zs_259_308, zs_259_311, zs_259_314, zs_259_317, zs_259_317n, zs_259_318, zs_259_320, zs_259_322, zs_259_325, zs_259_328, zs_259_331, zs_259_331n, zs_259_332, zs_259_334, zs_259_337, zs_259_338, zs_259_341, zs_259_341n, zs_259_342, zs_259_344, zs_259_347, zs_259_350, zs_259_353, zs_259_354, zs_259_357, zs_259_358, zs_259_360, zs_259_361, zs_259_363, zs_259_365, zs_259_367, zs_259_370, zs_259_370n, zs_259_371, zs_259_373, zs_259_376, zs_259_376n, zs_259_377, zs_259_379, zs_259_381, zs_259_383, zs_259_384, zs_259_385, zs_259_388, zs_259_388n, zs_259_389, zs_259_391, zs_259_394, zs_259_395, zs_259_396, zs_259_397, zs_259_398, zs_259_400, zs_259_403, zs_259_405, zs_259_408, zs_259_408n, zs_259_409, zs_259_411, zs_259_413, zs_259_415, zs_259_416, zs_259_417, zs_259_419, zs_259_422, zs_259_425, zs_259_428, zs_259_429, zs_259_432, zs_259_433, zs_259_435, zs_259_438, zs_259_441, zs_259_444, zs_259_447, zs_259_449, zs_259_452, zs_259_452n, zs_259_453, zs_259_455, zs_259_458, zs_259_461, zs_259_464, zs_259_464n, zs_259_465, zs_259_467, zs_259_470, zs_259_473, zs_259_476, zs_259_476n, zs_259_477, zs_259_478, zs_259_481, zs_259_484, zs_259_487, zs_259_487n, zs_259_488, zs_259_489, zs_259_492, zs_259_495, zs_259_498, zs_259_498n, zs_259_499, zs_259_500, zs_259_502, zs_259_505, zs_259_508, zs_259_511, zs_259_511n, zs_259_512, zs_259_513, zs_259_516, zs_259_519, zs_259_522, zs_259_522n, zs_259_523, zs_259_524, zs_259_527, zs_259_530, zs_259_533, zs_259_533n, zs_259_534, zs_259_535, zs_259_536, zs_259_539, zs_259_542, zs_259_545, zs_259_545n, zs_259_546, zs_259_547, zs_259_548, zs_259_551, zs_259_554, zs_259_557, zs_259_557n, zs_259_558, zs_259_559, zs_259_562, zs_259_565, zs_259_568, zs_259_568n, zs_259_569, zs_259_570, zs_259_573, zs_259_576, zs_259_579, zs_259_579n, zs_259_580, zs_259_581, zs_259_582, zs_259_585, zs_259_588, zs_259_591, zs_259_591n, zs_259_592, zs_259_593, zs_259_594, zs_259_597, zs_259_600, zs_259_603, zs_259_603n, zs_259_604, zs_259_605, zs_259_608, zs_259_611, zs_259_614, zs_259_614n, zs_259_615, zs_259_616, zs_259_619, zs_259_622, zs_259_625, zs_259_625n, zs_259_626, zs_259_627, zs_259_630, zs_259_633, zs_259_636, zs_259_636n, zs_259_637, zs_259_638, zs_259_641, zs_259_644, zs_259_647, zs_259_647n, zs_259_648, zs_259_649, zs_259_652, zs_259_655, zs_259_658, zs_259_658n, zs_259_659, zs_259_660, zs_259_663, zs_259_666, zs_259_669, zs_259_669n, zs_259_670, zs_259_671, zs_259_672, zs_259_675, zs_259_678, zs_259_681, zs_259_681n, zs_259_682, zs_259_683, zs_259_684, zs_259_687, zs_259_690, zs_259_693, zs_259_693n, zs_259_694, zs_259_695, zs_259_696, zs_259_699, zs_259_702, zs_259_705, zs_259_705n, zs_259_706, zs_259_707, zs_259_710, zs_259_713, zs_259_716, zs_259_716n, zs_259_717, zs_259_718, zs_259_721, zs_259_724, zs_259_727, zs_259_727n, zs_259_728, zs_259_731, zs_259_734, zs_259_737, zs_259_740, zs_259_740n, zs_259_741, zs_259_742, zs_259_745, zs_259_748, zs_259_751, zs_259_751n, zs_259_752, zs_259_753, zs_259_756, zs_259_759, zs_259_762, zs_259_762n, zs_259_763, zs_259_764, zs_259_767, zs_259_769, zs_259_770, zs_259_773, zs_259_773n, zs_259_774, zs_259_775, zs_259_778, zs_259_781, zs_259_782, zs_259_785, zs_259_786, zs_259_788, zs_259_790, zs_259_793, zs_259_793n, zs_259_794, zs_259_797, zs_259_799, zs_259_802, zs_259_802n, zs_259_803, zs_259_806, zs_259_807, zs_259_808, zs_259_811, zs_259_812, zs_259_815, zs_259_816, zs_259_16, k7', e1', e2', k8', e3', if_pos cn6, e4, e5, e6, e7, e8, e9, e10, e11, e12, e13, e14, e15, zbk_v, zts_s, zts_n, ↓reduceIte, List.cons_append, List.nil_append]
/-- thrown, at one formula -/
theorem th_b {k n M : Nat} {x1 : Int64} {x4 : Int32} {l7 : Slot} {t : yT} (w7 : znw l7 = true) (hc : zCls h m w) (ht : (ycur w).1[k]? = some t) (hR : (ycur w).2.2.1 = nI M) (h1M : 1 ≤ M) (hM : M ≤ 4) : ∃ h', zrun zP sv (zcall zP sv (d + 49)) 259 249 [.val (.ref m), .val (.long x1), .second, .val (.int (nI n)), .val (.int x4), .val (.int (nI 1)), .val (.int (nI k)), l7] [] h = zrun zP sv (zcall zP sv (d + 49)) 259 363 [.val (.ref m), .val (.long x1), .second, .val (.int (nI n)), .val (.int x4), .val (.int (nI 1)), .val (.int (nI k)), .val (.int 0)] [] h' ∧ zCls h' m w ∧ zfx m (m + 119) 10 60 h h' := by
  have tk := (zcur_ok hc).2.1 t (List.mem_of_getElem? ht)
  have hlen := yco_len (M := M) (ysz t) t (Nat.le_refl _) tk.1 0 0
  have t31 := tk.2.1
  have hll : (yco M t 0 0).length ≤ 62 := by omega
  have cl : ¬ nI (yco M t 0 0).length < nI (yco M t 0 0).length := nI_nlt (Nat.le_refl _) (by omega)
  have c99 : ¬ nI 99 < nI (yco M t 0 0).length := nI_nlt (by omega) (by decide)
  obtain ⟨h1, e1, c1, f1⟩ := h_241e2 hc (d_55o (sv := sv) (d := d) (x := -1) hc ht hR h1M hM (Or.inl (by decide)))
  obtain ⟨h2, e2, c2, f2⟩ := h_237v c1 (d_51 (sv := sv) (d := d) c1 ht hR h1M hM)
  obtain ⟨h3, e3, c3, f3⟩ := h_241e2 c2 (d_55o (sv := sv) (d := d) c2 ht hR h1M hM (Or.inr cl))
  obtain ⟨h4, e4, c4, f4⟩ := h_242e2 c3 (d_56o (sv := sv) (d := d) c3 ht hR h1M hM (Or.inr c99))
  obtain ⟨h5, e5, c5, f5⟩ := h_237v c4 (d_51 (sv := sv) (d := d) c4 ht hR h1M hM)
  obtain ⟨h6, e6, c6, f6⟩ := h_243e2 c5 (d_57o (sv := sv) (d := d) c5 ht hR h1M hM (Or.inr cl))
  obtain ⟨h7, e7, c7, f7⟩ := h_228e1 c6 (d_38l (sv := sv) (d := d) c6 ht y103)
  obtain ⟨h8, e8, c8, f8⟩ := h_235v c7 (d_49 (sv := sv) (d := d) c7 ht)
  by_cases c5 : yfo yfD t < nI 5
  · refine ⟨h8, ?_, c8, zfx_mono (zfx_tr (zfx_tr (zfx_tr (zfx_tr (zfx_tr (zfx_tr (zfx_tr f1 f2) f3) f4) f5) f6) f7) f8) (Nat.le_refl _) (Nat.le_refl _) (by omega) (by omega)⟩
    simp (disch := first | exact znw_u | exact znw_i | assumption) only [zs_259_0, zs_259_0n, zs_259_1, zs_259_4, zs_259_4s, zs_259_5, zs_259_5n, zs_259_6, zs_259_9, zs_259_10, zs_259_10n, zs_259_11, zs_259_14, zs_259_16, zs_259_16n, zs_259_17, zs_259_20, zs_259_23, zs_259_26, zs_259_29, zs_259_29n, zs_259_30, zs_259_33, zs_259_34, zs_259_37, zs_259_37n, zs_259_38, zs_259_41, zs_259_44, zs_259_45, zs_259_47, zs_259_50, zs_259_53, zs_259_56, zs_259_59, zs_259_62, zs_259_62n, zs_259_63, zs_259_64, zs_259_67, zs_259_70, zs_259_73, zs_259_73n, zs_259_74, zs_259_75, zs_259_78, zs_259_81, zs_259_84, zs_259_84n, zs_259_85, zs_259_86, zs_259_88, zs_259_91, zs_259_94, zs_259_97, zs_259_97n, zs_259_98, zs_259_99, zs_259_101, zs_259_104, zs_259_107, zs_259_110, zs_259_111, zs_259_113, zs_259_116, zs_259_116n, zs_259_117, zs_259_118, zs_259_120, zs_259_123, zs_259_126, zs_259_129, zs_259_129n, zs_259_130, zs_259_131, zs_259_133, zs_259_134, zs_259_137, zs_259_140, zs_259_143, zs_259_143n, zs_259_144, zs_259_145, zs_259_147, zs_259_148, zs_259_151, zs_259_154, zs_259_157, zs_259_157n, zs_259_158, zs_259_159, zs_259_161, zs_259_162, zs_259_165, zs_259_168, zs_259_171, zs_259_171n, zs_259_172, zs_259_174, zs_259_177, zs_259_180, zs_259_182, zs_259_185, zs_259_185n, zs_259_186, zs_259_188, zs_259_191, zs_259_194, zs_259_196, zs_259_199, zs_259_199n, zs_259_200, zs_259_202, zs_259_203, zs_259_206, zs_259_208, zs_259_211, zs_259_211n, zs_259_212, zs_259_213, zs_259_216, zs_259_219, zs_259_222, zs_259_222n, zs_259_223, zs_259_224, zs_259_227, zs_259_230, zs_259_233, zs_259_234, zs_259_237, zs_259_238, zs_259_240, zs_259_241, zs_259_243, zs_259_245, zs_259_246, zs_259_251, zs_259_254, zs_259_254n, zs_259_255, zs_259_257, zs_259_258, zs_259_261, zs_259_264, zs_259_267, zs_259_267n, zs_259_268, zs_259_270, zs_259_270n, zs_259_271, zs_259_273, zs_259_276, zs_259_279, zs_259_282, zs_259_285, zs_259_285n, zs_259_286, zs_259_288, zs_259_290, zs_259_293, zs_259_296, zs_259_299, zs_259_299n, zs_259_300, zs_259_302, zs_259_302n, zs_259_303, zs_259_305, zs_259_308, zs_259_311, zs_259_314, zs_259_317, zs_259_317n, zs_259_318, zs_259_320, zs_259_322, zs_259_325, zs_259_328, zs_259_331, zs_259_331n, zs_259_332, zs_259_334, zs_259_337, zs_259_338, zs_259_341, zs_259_341n, zs_259_342, zs_259_344, zs_259_347, zs_259_350, zs_259_353, zs_259_354, zs_259_357, zs_259_358, zs_259_360, zs_259_361, zs_259_365, zs_259_367, zs_259_370, zs_259_370n, zs_259_371, zs_259_373, zs_259_376, zs_259_376n, zs_259_377, zs_259_379, zs_259_381, zs_259_383, zs_259_384, zs_259_385, zs_259_388, zs_259_388n, zs_259_389, zs_259_391, zs_259_394, zs_259_395, zs_259_396, zs_259_397, zs_259_398, zs_259_400, zs_259_403, zs_259_405, zs_259_408, zs_259_408n, zs_259_409, zs_259_411, zs_259_413, zs_259_415, zs_259_416, zs_259_417, zs_259_419, zs_259_422, zs_259_425, zs_259_428, zs_259_429, zs_259_432, zs_259_433, zs_259_435, zs_259_438, zs_259_441, zs_259_444, zs_259_447, zs_259_449, zs_259_452, zs_259_452n, zs_259_453, zs_259_455, zs_259_458, zs_259_461, zs_259_464, zs_259_464n, zs_259_465, zs_259_467, zs_259_470, zs_259_473, zs_259_476, zs_259_476n, zs_259_477, zs_259_478, zs_259_481, zs_259_484, zs_259_487, zs_259_487n, zs_259_488, zs_259_489, zs_259_492, zs_259_495, zs_259_498, zs_259_498n, zs_259_499, zs_259_500, zs_259_502, zs_259_505, zs_259_508, zs_259_511, zs_259_511n, zs_259_512, zs_259_513, zs_259_516, zs_259_519, zs_259_522, zs_259_522n, zs_259_523, zs_259_524, zs_259_527, zs_259_530, zs_259_533, zs_259_533n, zs_259_534, zs_259_535, zs_259_536, zs_259_539, zs_259_542, zs_259_545, zs_259_545n, zs_259_546, zs_259_547, zs_259_548, zs_259_551, zs_259_554, zs_259_557, zs_259_557n, zs_259_558, zs_259_559, zs_259_562, zs_259_565, zs_259_568, zs_259_568n, zs_259_569, zs_259_570, zs_259_573, zs_259_576, zs_259_579, zs_259_579n, zs_259_580, zs_259_581, zs_259_582, zs_259_585, zs_259_588, zs_259_591, zs_259_591n, zs_259_592, zs_259_593, zs_259_594, zs_259_597, zs_259_600, zs_259_603, zs_259_603n, zs_259_604, zs_259_605, zs_259_608, zs_259_611, zs_259_614, zs_259_614n, zs_259_615, zs_259_616, zs_259_619, zs_259_622, zs_259_625, zs_259_625n, zs_259_626, zs_259_627, zs_259_630, zs_259_633, zs_259_636, zs_259_636n, zs_259_637, zs_259_638, zs_259_641, zs_259_644, zs_259_647, zs_259_647n, zs_259_648, zs_259_649, zs_259_652, zs_259_655, zs_259_658, zs_259_658n, zs_259_659, zs_259_660, zs_259_663, zs_259_666, zs_259_669, zs_259_669n, zs_259_670, zs_259_671, zs_259_672, zs_259_675, zs_259_678, zs_259_681, zs_259_681n, zs_259_682, zs_259_683, zs_259_684, zs_259_687, zs_259_690, zs_259_693, zs_259_693n, zs_259_694, zs_259_695, zs_259_696, zs_259_699, zs_259_702, zs_259_705, zs_259_705n, zs_259_706, zs_259_707, zs_259_710, zs_259_713, zs_259_716, zs_259_716n, zs_259_717, zs_259_718, zs_259_721, zs_259_724, zs_259_727, zs_259_727n, zs_259_728, zs_259_731, zs_259_734, zs_259_737, zs_259_740, zs_259_740n, zs_259_741, zs_259_742, zs_259_745, zs_259_748, zs_259_751, zs_259_751n, zs_259_752, zs_259_753, zs_259_756, zs_259_759, zs_259_762, zs_259_762n, zs_259_763, zs_259_764, zs_259_767, zs_259_769, zs_259_770, zs_259_773, zs_259_773n, zs_259_774, zs_259_775, zs_259_778, zs_259_781, zs_259_782, zs_259_785, zs_259_786, zs_259_788, zs_259_790, zs_259_793, zs_259_793n, zs_259_794, zs_259_797, zs_259_799, zs_259_802, zs_259_802n, zs_259_803, zs_259_806, zs_259_807, zs_259_808, zs_259_811, zs_259_812, zs_259_815, zs_259_816, zs_259_249, nI_1e0, e1, e2, e3, e4, e5, e6, e7, e8, if_pos c5, zbk_v, zts_s, zts_n, ↓reduceIte, List.cons_append, List.nil_append]
  · obtain ⟨h9, e9, c9, f9⟩ := h_240e4 c8 (d_54m (sv := sv) (d := d) c8 ht (ylr_no tk c5))
    refine ⟨h9, ?_, c9, zfx_mono (zfx_tr (zfx_tr (zfx_tr (zfx_tr (zfx_tr (zfx_tr (zfx_tr (zfx_tr f1 f2) f3) f4) f5) f6) f7) f8) f9) (Nat.le_refl _) (Nat.le_refl _) (by omega) (by omega)⟩
    simp (disch := first | exact znw_u | exact znw_i | assumption) only [zs_259_0, zs_259_0n, zs_259_1, zs_259_4, zs_259_4s, zs_259_5, zs_259_5n, zs_259_6, zs_259_9, zs_259_10, zs_259_10n, zs_259_11, zs_259_14, zs_259_16, zs_259_16n, zs_259_17, zs_259_20, zs_259_23, zs_259_26, zs_259_29, zs_259_29n, zs_259_30, zs_259_33, zs_259_34, zs_259_37, zs_259_37n, zs_259_38, zs_259_41, zs_259_44, zs_259_45, zs_259_47, zs_259_50, zs_259_53, zs_259_56, zs_259_59, zs_259_62, zs_259_62n, zs_259_63, zs_259_64, zs_259_67, zs_259_70, zs_259_73, zs_259_73n, zs_259_74, zs_259_75, zs_259_78, zs_259_81, zs_259_84, zs_259_84n, zs_259_85, zs_259_86, zs_259_88, zs_259_91, zs_259_94, zs_259_97, zs_259_97n, zs_259_98, zs_259_99, zs_259_101, zs_259_104, zs_259_107, zs_259_110, zs_259_111, zs_259_113, zs_259_116, zs_259_116n, zs_259_117, zs_259_118, zs_259_120, zs_259_123, zs_259_126, zs_259_129, zs_259_129n, zs_259_130, zs_259_131, zs_259_133, zs_259_134, zs_259_137, zs_259_140, zs_259_143, zs_259_143n, zs_259_144, zs_259_145, zs_259_147, zs_259_148, zs_259_151, zs_259_154, zs_259_157, zs_259_157n, zs_259_158, zs_259_159, zs_259_161, zs_259_162, zs_259_165, zs_259_168, zs_259_171, zs_259_171n, zs_259_172, zs_259_174, zs_259_177, zs_259_180, zs_259_182, zs_259_185, zs_259_185n, zs_259_186, zs_259_188, zs_259_191, zs_259_194, zs_259_196, zs_259_199, zs_259_199n, zs_259_200, zs_259_202, zs_259_203, zs_259_206, zs_259_208, zs_259_211, zs_259_211n, zs_259_212, zs_259_213, zs_259_216, zs_259_219, zs_259_222, zs_259_222n, zs_259_223, zs_259_224, zs_259_227, zs_259_230, zs_259_233, zs_259_234, zs_259_237, zs_259_238, zs_259_240, zs_259_241, zs_259_243, zs_259_245, zs_259_246, zs_259_251, zs_259_254, zs_259_254n, zs_259_255, zs_259_257, zs_259_258, zs_259_261, zs_259_264, zs_259_267, zs_259_267n, zs_259_268, zs_259_270, zs_259_270n, zs_259_271, zs_259_273, zs_259_276, zs_259_279, zs_259_282, zs_259_285, zs_259_285n, zs_259_286, zs_259_288, zs_259_290, zs_259_293, zs_259_296, zs_259_299, zs_259_299n, zs_259_300, zs_259_302, zs_259_302n, zs_259_303, zs_259_305, zs_259_308, zs_259_311, zs_259_314, zs_259_317, zs_259_317n, zs_259_318, zs_259_320, zs_259_322, zs_259_325, zs_259_328, zs_259_331, zs_259_331n, zs_259_332, zs_259_334, zs_259_337, zs_259_338, zs_259_341, zs_259_341n, zs_259_342, zs_259_344, zs_259_347, zs_259_350, zs_259_353, zs_259_354, zs_259_357, zs_259_358, zs_259_360, zs_259_361, zs_259_365, zs_259_367, zs_259_370, zs_259_370n, zs_259_371, zs_259_373, zs_259_376, zs_259_376n, zs_259_377, zs_259_379, zs_259_381, zs_259_383, zs_259_384, zs_259_385, zs_259_388, zs_259_388n, zs_259_389, zs_259_391, zs_259_394, zs_259_395, zs_259_396, zs_259_397, zs_259_398, zs_259_400, zs_259_403, zs_259_405, zs_259_408, zs_259_408n, zs_259_409, zs_259_411, zs_259_413, zs_259_415, zs_259_416, zs_259_417, zs_259_419, zs_259_422, zs_259_425, zs_259_428, zs_259_429, zs_259_432, zs_259_433, zs_259_435, zs_259_438, zs_259_441, zs_259_444, zs_259_447, zs_259_449, zs_259_452, zs_259_452n, zs_259_453, zs_259_455, zs_259_458, zs_259_461, zs_259_464, zs_259_464n, zs_259_465, zs_259_467, zs_259_470, zs_259_473, zs_259_476, zs_259_476n, zs_259_477, zs_259_478, zs_259_481, zs_259_484, zs_259_487, zs_259_487n, zs_259_488, zs_259_489, zs_259_492, zs_259_495, zs_259_498, zs_259_498n, zs_259_499, zs_259_500, zs_259_502, zs_259_505, zs_259_508, zs_259_511, zs_259_511n, zs_259_512, zs_259_513, zs_259_516, zs_259_519, zs_259_522, zs_259_522n, zs_259_523, zs_259_524, zs_259_527, zs_259_530, zs_259_533, zs_259_533n, zs_259_534, zs_259_535, zs_259_536, zs_259_539, zs_259_542, zs_259_545, zs_259_545n, zs_259_546, zs_259_547, zs_259_548, zs_259_551, zs_259_554, zs_259_557, zs_259_557n, zs_259_558, zs_259_559, zs_259_562, zs_259_565, zs_259_568, zs_259_568n, zs_259_569, zs_259_570, zs_259_573, zs_259_576, zs_259_579, zs_259_579n, zs_259_580, zs_259_581, zs_259_582, zs_259_585, zs_259_588, zs_259_591, zs_259_591n, zs_259_592, zs_259_593, zs_259_594, zs_259_597, zs_259_600, zs_259_603, zs_259_603n, zs_259_604, zs_259_605, zs_259_608, zs_259_611, zs_259_614, zs_259_614n, zs_259_615, zs_259_616, zs_259_619, zs_259_622, zs_259_625, zs_259_625n, zs_259_626, zs_259_627, zs_259_630, zs_259_633, zs_259_636, zs_259_636n, zs_259_637, zs_259_638, zs_259_641, zs_259_644, zs_259_647, zs_259_647n, zs_259_648, zs_259_649, zs_259_652, zs_259_655, zs_259_658, zs_259_658n, zs_259_659, zs_259_660, zs_259_663, zs_259_666, zs_259_669, zs_259_669n, zs_259_670, zs_259_671, zs_259_672, zs_259_675, zs_259_678, zs_259_681, zs_259_681n, zs_259_682, zs_259_683, zs_259_684, zs_259_687, zs_259_690, zs_259_693, zs_259_693n, zs_259_694, zs_259_695, zs_259_696, zs_259_699, zs_259_702, zs_259_705, zs_259_705n, zs_259_706, zs_259_707, zs_259_710, zs_259_713, zs_259_716, zs_259_716n, zs_259_717, zs_259_718, zs_259_721, zs_259_724, zs_259_727, zs_259_727n, zs_259_728, zs_259_731, zs_259_734, zs_259_737, zs_259_740, zs_259_740n, zs_259_741, zs_259_742, zs_259_745, zs_259_748, zs_259_751, zs_259_751n, zs_259_752, zs_259_753, zs_259_756, zs_259_759, zs_259_762, zs_259_762n, zs_259_763, zs_259_764, zs_259_767, zs_259_769, zs_259_770, zs_259_773, zs_259_773n, zs_259_774, zs_259_775, zs_259_778, zs_259_781, zs_259_782, zs_259_785, zs_259_786, zs_259_788, zs_259_790, zs_259_793, zs_259_793n, zs_259_794, zs_259_797, zs_259_799, zs_259_802, zs_259_802n, zs_259_803, zs_259_806, zs_259_807, zs_259_808, zs_259_811, zs_259_812, zs_259_815, zs_259_816, zs_259_249, nI_1e0, e1, e2, e3, e4, e5, e6, e7, e8, e9, if_neg c5, zbk_v, zts_s, zts_n, ↓reduceIte, List.cons_append, List.nil_append]
/-- a formula put into itself, at each letter -/
theorem th_v {k n : Nat} {x1 : Int64} {x4 : Int32} {t : yT} (ht : (ycur w).1[k]? = some t) : ∀ j v (h : zH), v + j = 6 → zCls h m w → ∃ h', zrun zP sv (zcall zP sv (d + 49)) 259 363 [.val (.ref m), .val (.long x1), .second, .val (.int (nI n)), .val (.int x4), .val (.int (nI 1)), .val (.int (nI k)), .val (.int (nI v))] [] h = zrun zP sv (zcall zP sv (d + 49)) 259 441 [.val (.ref m), .val (.long x1), .second, .val (.int (nI n)), .val (.int x4), .val (.int (nI 1)), .val (.int (nI k)), .val (.int (nI 6))] [] h' ∧ zCls h' m w ∧ zfx m (m + 119) (9 * j) (134 * j) h h' := by
  intro j
  induction j with
  | zero =>
    intro v h hv hc
    obtain rfl : v = 6 := by omega
    have c : ¬ nI 6 < nI 6 := nI_nlt (Nat.le_refl _) (by decide)
    refine ⟨h, ?_, hc, zfx_rfl⟩
    simp (disch := first | exact znw_u | exact znw_i) only [zs_259_363, zs_259_365, zs_259_367, if_neg c]
  | succ j ih =>
    intro v h hv hc
    have tk := (zcur_ok hc).2.1 t (List.mem_of_getElem? ht)
    have t31 := tk.2.1
    have t1 := ytw_sz tk.1
    have c : nI v < nI 6 := nI_lt (by omega) (by decide)
    have ec := ytx_c v (by omega)
    obtain ⟨h1, e1, c1, f1⟩ := h_226v hc (d_36 (sv := sv) (d := d) hc ht)
    obtain ⟨h2, e2, c2, f2⟩ := h_228v c1 (d_38 (sv := sv) (d := d) (c := nI (97 + v)) c1 ht (ytx_l v (by omega)).2.2)
    obtain ⟨h3, e3, c3, f3⟩ := h_226v c2 (d_36 (sv := sv) (d := d) c2 ht)
    have em : nI (ysz t) - nI 1 = nI (ysz t - 1) := nI_subn t1
    have eq : nI (ysz t) + nI (yoc (nI (97 + v)) (ypo 0 t)) * nI (ysz t - 1) = nI (ysz (yins (nI (97 + v)) t t)) := by
      rw [nI_mulx, nI_add, yins_sz tk.1]
    have hoc : yoc (nI (97 + v)) (ypo 0 t) ≤ 31 := by
      have : yoc (nI (97 + v)) (ypo 0 t) ≤ (ypo 0 t).length := List.countP_le_length
      rw [ypo_len] at this
      omega
    have hbig : ysz (yins (nI (97 + v)) t t) < 2 ^ 31 := by
      rw [yins_sz tk.1]
      have : yoc (nI (97 + v)) (ypo 0 t) * (ysz t - 1) ≤ 31 * 31 := Nat.mul_le_mul hoc (by omega)
      omega
    by_cases c31 : 31 < ysz (yins (nI (97 + v)) t t)
    · have g31 : nI 31 < nI (ysz (yins (nI (97 + v)) t t)) := nI_lt c31 hbig
      have e4' := d_30 (sv := sv) (d := d) (c := nI (97 + v)) c3 ht ht
      have ny : ¬ ylet (nI (97 + v)) = false := by
        rw [(ytx_l v (by omega)).2.2]
        decide
      have q : yinsF w k t (nI (97 + v)) t = (.inr 3, w) := (if_neg ny).trans (if_neg (fun z => by omega))
      rw [q] at e4'
      obtain ⟨h4, e4, c4, f4⟩ := h_223e3 c3 e4'
      obtain ⟨h5, e5, c5, f5⟩ := ih (v + 1) h4 (by omega) c4
      refine ⟨h5, ?_, c5, zfx_mono (zfx_tr (zfx_tr (zfx_tr (zfx_tr f1 f2) f3) f4) f5) (Nat.le_refl _) (Nat.le_refl _) (by omega) (by omega)⟩
      rw [← e5]
      rw [zs_259_363, zs_259_365, zs_259_367, if_pos c]
      simp (disch := first | exact znw_u | exact znw_i) only [zs_259_0, zs_259_0n, zs_259_1, zs_259_4, zs_259_4s, zs_259_5, zs_259_5n, zs_259_6, zs_259_9, zs_259_10, zs_259_10n, zs_259_11, zs_259_14, zs_259_16, zs_259_16n, zs_259_17, zs_259_20, zs_259_23, zs_259_26, zs_259_29, zs_259_29n, zs_259_30, zs_259_33, zs_259_34, zs_259_37, zs_259_37n, zs_259_38, zs_259_41, zs_259_44, zs_259_45, zs_259_47, zs_259_50, zs_259_53, zs_259_56, zs_259_59, zs_259_62, zs_259_62n, zs_259_63, zs_259_64, zs_259_67, zs_259_70, zs_259_73, zs_259_73n, zs_259_74, zs_259_75, zs_259_78, zs_259_81, zs_259_84, zs_259_84n, zs_259_85, zs_259_86, zs_259_88, zs_259_91, zs_259_94, zs_259_97, zs_259_97n, zs_259_98, zs_259_99, zs_259_101, zs_259_104, zs_259_107, zs_259_110, zs_259_111, zs_259_113, zs_259_116, zs_259_116n, zs_259_117, zs_259_118, zs_259_120, zs_259_123, zs_259_126, zs_259_129, zs_259_129n, zs_259_130, zs_259_131, zs_259_133, zs_259_134, zs_259_137, zs_259_140, zs_259_143, zs_259_143n, zs_259_144, zs_259_145, zs_259_147, zs_259_148, zs_259_151, zs_259_154, zs_259_157, zs_259_157n, zs_259_158, zs_259_159, zs_259_161, zs_259_162, zs_259_165, zs_259_168, zs_259_171, zs_259_171n, zs_259_172, zs_259_174, zs_259_177, zs_259_180, zs_259_182, zs_259_185, zs_259_185n, zs_259_186, zs_259_188, zs_259_191, zs_259_194, zs_259_196, zs_259_199, zs_259_199n, zs_259_200, zs_259_202, zs_259_203, zs_259_206, zs_259_208, zs_259_211, zs_259_211n, zs_259_212, zs_259_213, zs_259_216, zs_259_219, zs_259_222, zs_259_222n, zs_259_223, zs_259_224, zs_259_227, zs_259_230, zs_259_233, zs_259_234, zs_259_237, zs_259_238, zs_259_240, zs_259_241, zs_259_243, zs_259_245, zs_259_246, zs_259_249, zs_259_251, zs_259_254, zs_259_254n, zs_259_255, zs_259_257, zs_259_258, zs_259_261, zs_259_264, zs_259_267, zs_259_267n, zs_259_268, zs_259_270, zs_259_270n, zs_259_271, zs_259_273, zs_259_276, zs_259_279, zs_259_282, zs_259_285, zs_259_285n, zs_259_286, zs_259_288, zs_259_290, zs_259_293, zs_259_296, zs_259_299, zs_259_299n, zs_259_300, zs_259_302, zs_259_302n, zs_259_303, zs_259_305, zs_259_308, zs_259_311, zs_259_314, zs_259_317, zs_259_317n, zs_259_318, zs_259_320, zs_259_322, zs_259_325, zs_259_328, zs_259_331, zs_259_331n, zs_259_332, zs_259_334, zs_259_337, zs_259_338, zs_259_341, zs_259_341n, zs_259_342, zs_259_344, zs_259_347, zs_259_350, zs_259_353, zs_259_354, zs_259_357, zs_259_358, zs_259_360, zs_259_361, zs_259_365, zs_259_367, zs_259_370, zs_259_370n, zs_259_371, zs_259_373, zs_259_376, zs_259_376n, zs_259_377, zs_259_379, zs_259_381, zs_259_383, zs_259_384, zs_259_385, zs_259_388, zs_259_388n, zs_259_389, zs_259_391, zs_259_394, zs_259_395, zs_259_396, zs_259_397, zs_259_398, zs_259_400, zs_259_403, zs_259_405, zs_259_408, zs_259_408n, zs_259_409, zs_259_411, zs_259_413, zs_259_415, zs_259_416, zs_259_417, zs_259_419, zs_259_422, zs_259_425, zs_259_428, zs_259_429, zs_259_432, zs_259_433, zs_259_435, zs_259_438, zs_259_444, zs_259_447, zs_259_449, zs_259_452, zs_259_452n, zs_259_453, zs_259_455, zs_259_458, zs_259_461, zs_259_464, zs_259_464n, zs_259_465, zs_259_467, zs_259_470, zs_259_473, zs_259_476, zs_259_476n, zs_259_477, zs_259_478, zs_259_481, zs_259_484, zs_259_487, zs_259_487n, zs_259_488, zs_259_489, zs_259_492, zs_259_495, zs_259_498, zs_259_498n, zs_259_499, zs_259_500, zs_259_502, zs_259_505, zs_259_508, zs_259_511, zs_259_511n, zs_259_512, zs_259_513, zs_259_516, zs_259_519, zs_259_522, zs_259_522n, zs_259_523, zs_259_524, zs_259_527, zs_259_530, zs_259_533, zs_259_533n, zs_259_534, zs_259_535, zs_259_536, zs_259_539, zs_259_542, zs_259_545, zs_259_545n, zs_259_546, zs_259_547, zs_259_548, zs_259_551, zs_259_554, zs_259_557, zs_259_557n, zs_259_558, zs_259_559, zs_259_562, zs_259_565, zs_259_568, zs_259_568n, zs_259_569, zs_259_570, zs_259_573, zs_259_576, zs_259_579, zs_259_579n, zs_259_580, zs_259_581, zs_259_582, zs_259_585, zs_259_588, zs_259_591, zs_259_591n, zs_259_592, zs_259_593, zs_259_594, zs_259_597, zs_259_600, zs_259_603, zs_259_603n, zs_259_604, zs_259_605, zs_259_608, zs_259_611, zs_259_614, zs_259_614n, zs_259_615, zs_259_616, zs_259_619, zs_259_622, zs_259_625, zs_259_625n, zs_259_626, zs_259_627, zs_259_630, zs_259_633, zs_259_636, zs_259_636n, zs_259_637, zs_259_638, zs_259_641, zs_259_644, zs_259_647, zs_259_647n, zs_259_648, zs_259_649, zs_259_652, zs_259_655, zs_259_658, zs_259_658n, zs_259_659, zs_259_660, zs_259_663, zs_259_666, zs_259_669, zs_259_669n, zs_259_670, zs_259_671, zs_259_672, zs_259_675, zs_259_678, zs_259_681, zs_259_681n, zs_259_682, zs_259_683, zs_259_684, zs_259_687, zs_259_690, zs_259_693, zs_259_693n, zs_259_694, zs_259_695, zs_259_696, zs_259_699, zs_259_702, zs_259_705, zs_259_705n, zs_259_706, zs_259_707, zs_259_710, zs_259_713, zs_259_716, zs_259_716n, zs_259_717, zs_259_718, zs_259_721, zs_259_724, zs_259_727, zs_259_727n, zs_259_728, zs_259_731, zs_259_734, zs_259_737, zs_259_740, zs_259_740n, zs_259_741, zs_259_742, zs_259_745, zs_259_748, zs_259_751, zs_259_751n, zs_259_752, zs_259_753, zs_259_756, zs_259_759, zs_259_762, zs_259_762n, zs_259_763, zs_259_764, zs_259_767, zs_259_769, zs_259_770, zs_259_773, zs_259_773n, zs_259_774, zs_259_775, zs_259_778, zs_259_781, zs_259_782, zs_259_785, zs_259_786, zs_259_788, zs_259_790, zs_259_793, zs_259_793n, zs_259_794, zs_259_797, zs_259_799, zs_259_802, zs_259_802n, zs_259_803, zs_259_806, zs_259_807, zs_259_808, zs_259_811, zs_259_812, zs_259_815, zs_259_816, ec, e1, e2, e3, em, eq, if_pos g31, nI_1e0, e4, nI_p1, zbk_v, zts_s, zts_n, ↓reduceIte, List.cons_append, List.nil_append]
    · have g31 : ¬ nI 31 < nI (ysz (yins (nI (97 + v)) t t)) := nI_nlt (by omega) (by decide)
      obtain ⟨h5, e5, c5, f5⟩ := ih (v + 1) h3 (by omega) c3
      refine ⟨h5, ?_, c5, zfx_mono (zfx_tr (zfx_tr (zfx_tr f1 f2) f3) f5) (Nat.le_refl _) (Nat.le_refl _) (by omega) (by omega)⟩
      rw [← e5]
      rw [zs_259_363, zs_259_365, zs_259_367, if_pos c]
      simp (disch := first | exact znw_u | exact znw_i) only [zs_259_0, zs_259_0n, zs_259_1, zs_259_4, zs_259_4s, zs_259_5, zs_259_5n, zs_259_6, zs_259_9, zs_259_10, zs_259_10n, zs_259_11, zs_259_14, zs_259_16, zs_259_16n, zs_259_17, zs_259_20, zs_259_23, zs_259_26, zs_259_29, zs_259_29n, zs_259_30, zs_259_33, zs_259_34, zs_259_37, zs_259_37n, zs_259_38, zs_259_41, zs_259_44, zs_259_45, zs_259_47, zs_259_50, zs_259_53, zs_259_56, zs_259_59, zs_259_62, zs_259_62n, zs_259_63, zs_259_64, zs_259_67, zs_259_70, zs_259_73, zs_259_73n, zs_259_74, zs_259_75, zs_259_78, zs_259_81, zs_259_84, zs_259_84n, zs_259_85, zs_259_86, zs_259_88, zs_259_91, zs_259_94, zs_259_97, zs_259_97n, zs_259_98, zs_259_99, zs_259_101, zs_259_104, zs_259_107, zs_259_110, zs_259_111, zs_259_113, zs_259_116, zs_259_116n, zs_259_117, zs_259_118, zs_259_120, zs_259_123, zs_259_126, zs_259_129, zs_259_129n, zs_259_130, zs_259_131, zs_259_133, zs_259_134, zs_259_137, zs_259_140, zs_259_143, zs_259_143n, zs_259_144, zs_259_145, zs_259_147, zs_259_148, zs_259_151, zs_259_154, zs_259_157, zs_259_157n, zs_259_158, zs_259_159, zs_259_161, zs_259_162, zs_259_165, zs_259_168, zs_259_171, zs_259_171n, zs_259_172, zs_259_174, zs_259_177, zs_259_180, zs_259_182, zs_259_185, zs_259_185n, zs_259_186, zs_259_188, zs_259_191, zs_259_194, zs_259_196, zs_259_199, zs_259_199n, zs_259_200, zs_259_202, zs_259_203, zs_259_206, zs_259_208, zs_259_211, zs_259_211n, zs_259_212, zs_259_213, zs_259_216, zs_259_219, zs_259_222, zs_259_222n, zs_259_223, zs_259_224, zs_259_227, zs_259_230, zs_259_233, zs_259_234, zs_259_237, zs_259_238, zs_259_240, zs_259_241, zs_259_243, zs_259_245, zs_259_246, zs_259_249, zs_259_251, zs_259_254, zs_259_254n, zs_259_255, zs_259_257, zs_259_258, zs_259_261, zs_259_264, zs_259_267, zs_259_267n, zs_259_268, zs_259_270, zs_259_270n, zs_259_271, zs_259_273, zs_259_276, zs_259_279, zs_259_282, zs_259_285, zs_259_285n, zs_259_286, zs_259_288, zs_259_290, zs_259_293, zs_259_296, zs_259_299, zs_259_299n, zs_259_300, zs_259_302, zs_259_302n, zs_259_303, zs_259_305, zs_259_308, zs_259_311, zs_259_314, zs_259_317, zs_259_317n, zs_259_318, zs_259_320, zs_259_322, zs_259_325, zs_259_328, zs_259_331, zs_259_331n, zs_259_332, zs_259_334, zs_259_337, zs_259_338, zs_259_341, zs_259_341n, zs_259_342, zs_259_344, zs_259_347, zs_259_350, zs_259_353, zs_259_354, zs_259_357, zs_259_358, zs_259_360, zs_259_361, zs_259_365, zs_259_367, zs_259_370, zs_259_370n, zs_259_371, zs_259_373, zs_259_376, zs_259_376n, zs_259_377, zs_259_379, zs_259_381, zs_259_383, zs_259_384, zs_259_385, zs_259_388, zs_259_388n, zs_259_389, zs_259_391, zs_259_394, zs_259_395, zs_259_396, zs_259_397, zs_259_398, zs_259_400, zs_259_403, zs_259_405, zs_259_408, zs_259_408n, zs_259_409, zs_259_411, zs_259_413, zs_259_415, zs_259_416, zs_259_417, zs_259_419, zs_259_422, zs_259_425, zs_259_428, zs_259_429, zs_259_432, zs_259_433, zs_259_435, zs_259_438, zs_259_444, zs_259_447, zs_259_449, zs_259_452, zs_259_452n, zs_259_453, zs_259_455, zs_259_458, zs_259_461, zs_259_464, zs_259_464n, zs_259_465, zs_259_467, zs_259_470, zs_259_473, zs_259_476, zs_259_476n, zs_259_477, zs_259_478, zs_259_481, zs_259_484, zs_259_487, zs_259_487n, zs_259_488, zs_259_489, zs_259_492, zs_259_495, zs_259_498, zs_259_498n, zs_259_499, zs_259_500, zs_259_502, zs_259_505, zs_259_508, zs_259_511, zs_259_511n, zs_259_512, zs_259_513, zs_259_516, zs_259_519, zs_259_522, zs_259_522n, zs_259_523, zs_259_524, zs_259_527, zs_259_530, zs_259_533, zs_259_533n, zs_259_534, zs_259_535, zs_259_536, zs_259_539, zs_259_542, zs_259_545, zs_259_545n, zs_259_546, zs_259_547, zs_259_548, zs_259_551, zs_259_554, zs_259_557, zs_259_557n, zs_259_558, zs_259_559, zs_259_562, zs_259_565, zs_259_568, zs_259_568n, zs_259_569, zs_259_570, zs_259_573, zs_259_576, zs_259_579, zs_259_579n, zs_259_580, zs_259_581, zs_259_582, zs_259_585, zs_259_588, zs_259_591, zs_259_591n, zs_259_592, zs_259_593, zs_259_594, zs_259_597, zs_259_600, zs_259_603, zs_259_603n, zs_259_604, zs_259_605, zs_259_608, zs_259_611, zs_259_614, zs_259_614n, zs_259_615, zs_259_616, zs_259_619, zs_259_622, zs_259_625, zs_259_625n, zs_259_626, zs_259_627, zs_259_630, zs_259_633, zs_259_636, zs_259_636n, zs_259_637, zs_259_638, zs_259_641, zs_259_644, zs_259_647, zs_259_647n, zs_259_648, zs_259_649, zs_259_652, zs_259_655, zs_259_658, zs_259_658n, zs_259_659, zs_259_660, zs_259_663, zs_259_666, zs_259_669, zs_259_669n, zs_259_670, zs_259_671, zs_259_672, zs_259_675, zs_259_678, zs_259_681, zs_259_681n, zs_259_682, zs_259_683, zs_259_684, zs_259_687, zs_259_690, zs_259_693, zs_259_693n, zs_259_694, zs_259_695, zs_259_696, zs_259_699, zs_259_702, zs_259_705, zs_259_705n, zs_259_706, zs_259_707, zs_259_710, zs_259_713, zs_259_716, zs_259_716n, zs_259_717, zs_259_718, zs_259_721, zs_259_724, zs_259_727, zs_259_727n, zs_259_728, zs_259_731, zs_259_734, zs_259_737, zs_259_740, zs_259_740n, zs_259_741, zs_259_742, zs_259_745, zs_259_748, zs_259_751, zs_259_751n, zs_259_752, zs_259_753, zs_259_756, zs_259_759, zs_259_762, zs_259_762n, zs_259_763, zs_259_764, zs_259_767, zs_259_769, zs_259_770, zs_259_773, zs_259_773n, zs_259_774, zs_259_775, zs_259_778, zs_259_781, zs_259_782, zs_259_785, zs_259_786, zs_259_788, zs_259_790, zs_259_793, zs_259_793n, zs_259_794, zs_259_797, zs_259_799, zs_259_802, zs_259_802n, zs_259_803, zs_259_806, zs_259_807, zs_259_808, zs_259_811, zs_259_812, zs_259_815, zs_259_816, ec, e1, e2, e3, em, eq, if_neg g31, nI_p1, zbk_v, zts_s, zts_n, ↓reduceIte, List.cons_append, List.nil_append]
theorem th_f {n M : Nat} {x1 : Int64} {x4 : Int32} (hn : (ycur w).1.length = n) (h6 : n ≤ 6) (hR : (ycur w).2.2.1 = nI M) (h1M : 1 ≤ M) (hM : M ≤ 4) : ∀ j k (h : zH) (l7 : Slot), znw l7 = true → k + j = n → zCls h m w → ∃ (h' : zH) (l7' : Slot), znw l7' = true ∧ zrun zP sv (zcall zP sv (d + 49)) 259 243 [.val (.ref m), .val (.long x1), .second, .val (.int (nI n)), .val (.int x4), .val (.int (nI 1)), .val (.int (nI k)), l7] [] h = zrun zP sv (zcall zP sv (d + 49)) 259 447 [.val (.ref m), .val (.long x1), .second, .val (.int (nI n)), .val (.int x4), .val (.int (nI 1)), .val (.int (nI n)), l7'] [] h' ∧ zCls h' m w ∧ zfx m (m + 119) (64 * j) (864 * j) h h' := by
  intro j
  induction j with
  | zero =>
    intro k h l7 w7 hk hc
    obtain rfl : k = n := by omega
    have c : ¬ nI k < nI k := nI_nlt (Nat.le_refl _) (by omega)
    refine ⟨h, l7, w7, ?_, hc, zfx_rfl⟩
    simp (disch := first | exact znw_u | exact znw_i | assumption) only [zs_259_243, zs_259_245, zs_259_246, if_neg c]
  | succ j ih =>
    intro k h l7 w7 hk hc
    have c : nI k < nI n := nI_lt (by omega) (by omega)
    obtain ⟨t, ht⟩ : ∃ t, (ycur w).1[k]? = some t := ⟨_, List.getElem?_eq_getElem (by omega)⟩
    obtain ⟨h1, e1, c1, f1⟩ := th_b (sv := sv) (d := d) (n := n) (x1 := x1) (x4 := x4) w7 hc ht hR h1M hM
    obtain ⟨h2, e2, c2, f2⟩ := th_v (sv := sv) (d := d) (n := n) (x1 := x1) (x4 := x4) ht 6 0 h1 rfl c1
    rw [nI_0] at e2
    obtain ⟨h3, l3, w3, e3, c3, f3⟩ := ih (k + 1) h2 (.val (.int (nI 6))) rfl (by omega) c2
    refine ⟨h3, l3, w3, ?_, c3, zfx_mono (zfx_tr (zfx_tr f1 f2) f3) (Nat.le_refl _) (Nat.le_refl _) (by omega) (by omega)⟩
    rw [← e3]
    simp (disch := first | exact znw_u | exact znw_i | assumption) only [zs_259_243, zs_259_245, zs_259_246, if_pos c, e1, e2, zs_259_441, zs_259_444, nI_p1]
/-- thrown, the questions without a formula -/
theorem th_c {n : Nat} {x1 : Int64} {x4 : Int32} {l6 l7 : Slot} {t : yT} (w6 : znw l6 = true) (w7 : znw l7 = true) (hc : zCls h m w) (hn : (ycur w).1.length = n) (ht : (ycur w).1[0]? = some t) (ho : (yout w).length ≤ 700) : ∃ h', zrun zP sv (zcall zP sv (d + 49)) 259 447 [.val (.ref m), .val (.long x1), .second, .val (.int (nI n)), .val (.int x4), .val (.int (nI 1)), l6, l7] [] h = zrun zP sv (zcall zP sv (d + 49)) 259 788 [.val (.ref m), .val (.long x1), .second, .val (.int (nI n)), .val (.int x4), .val (.int (nI 1)), l6, l7] [] h' ∧ zCls h' m w ∧ zfx m (m + 119) 60 400 h h' := by
  have hl6 := (zcur_ok hc).1
  subst hn
  have hnn : ¬ nI (ycur w).1.length < nI (ycur w).1.length := nI_nlt (Nat.le_refl _) (by omega)
  have c700 : ¬ nI 700 < nI (yout w).length := nI_nlt ho (by decide)
  obtain ⟨h1, e1, c1, f1⟩ := h_224e1 hc (d_34n (sv := sv) (d := d) (c := nI 103) hc y103)
  obtain ⟨h2, e2, c2, f2⟩ := h_224e1 c1 (d_34n (sv := sv) (d := d) (c := nI 64) c1 (by decide +kernel))
  obtain ⟨h3, e3, c3, f3⟩ := h_226e2 c2 (d_36n (sv := sv) (d := d) c2 (Or.inr hnn))
  obtain ⟨h4, e4, c4, f4⟩ := h_227e2 c3 (d_37n (sv := sv) (d := d) (x0 := -1) c3 (Or.inl (by decide)))
  obtain ⟨h5, e5, c5, f5⟩ := h_228e2 c4 (d_38n (sv := sv) (d := d) (x1 := nI 103) c4 (Or.inr hnn))
  obtain ⟨h6, e6, c6, f6⟩ := h_229e2 c5 (d_39n (sv := sv) (d := d) c5 (Or.inr hnn))
  obtain ⟨h7, e7, c7, f7⟩ := h_230e2 c6 (d_40n (sv := sv) (d := d) c6 (Or.inr hnn))
  obtain ⟨h8, e8, c8, f8⟩ := th_231 (sv := sv) (d := d) c7 ht (Or.inr hnn)
  obtain ⟨h9, e9, c9, f9⟩ := h_231e2 c8 (d_41n (sv := sv) (d := d) (x1 := 0) c8 (Or.inr hnn))
  obtain ⟨h10, e10, c10, f10⟩ := h_232e2 c9 (d_42n (sv := sv) (d := d) c9 (Or.inr hnn))
  obtain ⟨h11, e11, c11, f11⟩ := h_233e2 c10 (d_43n (sv := sv) (d := d) (x0 := -1) c10 (Or.inl (by decide)))
  obtain ⟨h12, e12, c12, f12⟩ := th_234 (sv := sv) (d := d) c11 ht (Or.inr hnn)
  obtain ⟨h13, e13, c13, f13⟩ := h_234e2 c12 (d_44n (sv := sv) (d := d) (x1 := 0) c12 (Or.inr hnn))
  obtain ⟨h14, e14, c14, f14⟩ := h_235e2 c13 (d_49n (sv := sv) (d := d) c13 (Or.inr hnn))
  obtain ⟨h15, e15, c15, f15⟩ := h_236e2 c14 (d_50n (sv := sv) (d := d) c14 (Or.inr hnn))
  obtain ⟨h16, e16, c16, f16⟩ := h_237e2 c15 (d_51n (sv := sv) (d := d) c15 (Or.inr hnn))
  obtain ⟨h17, e17, c17, f17⟩ := h_238e2 c16 (d_52n (sv := sv) (d := d) c16 (Or.inr hnn))
  obtain ⟨h18, e18, c18, f18⟩ := h_239e2 c17 (d_53n (sv := sv) (d := d) c17 (Or.inr hnn))
  obtain ⟨h19, e19, c19, f19⟩ := h_240e2 c18 (d_54n (sv := sv) (d := d) c18 (Or.inr hnn))
  obtain ⟨h20, e20, c20, f20⟩ := h_241e2 c19 (d_55n (sv := sv) (d := d) (x1 := 0) c19 (Or.inr hnn))
  obtain ⟨h21, e21, c21, f21⟩ := h_242e2 c20 (d_56n (sv := sv) (d := d) (x1 := 0) c20 (Or.inr hnn))
  obtain ⟨h22, e22, c22, f22⟩ := h_243e2 c21 (d_57n (sv := sv) (d := d) (x1 := 0) c21 (Or.inr hnn))
  obtain ⟨h23, e23, c23, f23⟩ := h_244e2 c22 (d_58n (sv := sv) (d := d) c22 (Or.inr hnn))
  obtain ⟨h24, e24, c24, f24⟩ := h_245e2 c23 (d_59n (sv := sv) (d := d) (x := -1) c23 (Or.inl (by decide)))
  obtain ⟨h25, e25, c25, f25⟩ := h_245e2 c24 (d_59n (sv := sv) (d := d) c24 (Or.inr c700))
  obtain ⟨h26, e26, c26, f26⟩ := h_246e4 c25 (d_60n (sv := sv) (d := d) c25 (yrk_n hl6 (ycur w).1.length 0 (by omega)))
  obtain ⟨h27, e27, c27, f27⟩ := h_246e4 c26 (d_60n (sv := sv) (d := d) c26 (yrk_m hl6 (ycur w).1.length 0 (by omega)))
  obtain ⟨h28, e28, c28, f28⟩ := h_248e2 c27 (d_63n (sv := sv) (d := d) c27 (Or.inr hnn))
  obtain ⟨h29, e29, c29, f29⟩ := l_260 (sv := sv) (d := d) c28 ht
  refine ⟨h29, ?_, c29, zfx_mono (zfx_tr (zfx_tr (zfx_tr (zfx_tr (zfx_tr (zfx_tr (zfx_tr (zfx_tr (zfx_tr (zfx_tr (zfx_tr (zfx_tr (zfx_tr (zfx_tr (zfx_tr (zfx_tr (zfx_tr (zfx_tr (zfx_tr (zfx_tr (zfx_tr (zfx_tr (zfx_tr (zfx_tr (zfx_tr (zfx_tr (zfx_tr (zfx_tr f1 f2) f3) f4) f5) f6) f7) f8) f9) f10) f11) f12) f13) f14) f15) f16) f17) f18) f19) f20) f21) f22) f23) f24) f25) f26) f27) f28) f29) (Nat.le_refl _) (Nat.le_refl _) (by omega) (by omega)⟩
  simp (maxSteps := 400000) (disch := first | exact znw_u | exact znw_i | assumption) only [zs_259_0, zs_259_0n, zs_259_1, zs_259_4, zs_259_4s, zs_259_5, zs_259_5n, zs_259_6, zs_259_9, zs_259_10, zs_259_10n, zs_259_11, zs_259_14, zs_259_16, zs_259_16n, zs_259_17, zs_259_20, zs_259_23, zs_259_26, zs_259_29, zs_259_29n, zs_259_30, zs_259_33, zs_259_34, zs_259_37, zs_259_37n, zs_259_38, zs_259_41, zs_259_44, zs_259_45, zs_259_47, zs_259_50, zs_259_53, zs_259_56, zs_259_59, zs_259_62, zs_259_62n, zs_259_63, zs_259_64, zs_259_67, zs_259_70, zs_259_73, zs_259_73n, zs_259_74, zs_259_75, zs_259_78, zs_259_81, zs_259_84, zs_259_84n, zs_259_85, zs_259_86, zs_259_88, zs_259_91, zs_259_94, zs_259_97, zs_259_97n, zs_259_98, zs_259_99, zs_259_101, zs_259_104, zs_259_107, zs_259_110, zs_259_111, zs_259_113, zs_259_116, zs_259_116n, zs_259_117, zs_259_118, zs_259_120, zs_259_123, zs_259_126, zs_259_129, zs_259_129n, zs_259_130, zs_259_131, zs_259_133, zs_259_134, zs_259_137, zs_259_140, zs_259_143, zs_259_143n, zs_259_144, zs_259_145, zs_259_147, zs_259_148, zs_259_151, zs_259_154, zs_259_157, zs_259_157n, zs_259_158, zs_259_159, zs_259_161, zs_259_162, zs_259_165, zs_259_168, zs_259_171, zs_259_171n, zs_259_172, zs_259_174, zs_259_177, zs_259_180, zs_259_182, zs_259_185, zs_259_185n, zs_259_186, zs_259_188, zs_259_191, zs_259_194, zs_259_196, zs_259_199, zs_259_199n, zs_259_200, zs_259_202, zs_259_203, zs_259_206, zs_259_208, zs_259_211, zs_259_211n, zs_259_212, zs_259_213, zs_259_216, zs_259_219, zs_259_222, zs_259_222n, zs_259_223, zs_259_224, zs_259_227, zs_259_230, zs_259_233, zs_259_234, zs_259_237, zs_259_238, zs_259_240, zs_259_241, zs_259_243, zs_259_245, zs_259_246, zs_259_249, zs_259_251, zs_259_254, zs_259_254n, zs_259_255, zs_259_257, zs_259_258, zs_259_261, zs_259_264, zs_259_267, zs_259_267n, zs_259_268, zs_259_270, zs_259_270n, zs_259_271, zs_259_273, zs_259_276, zs_259_279, zs_259_282, zs_259_285, zs_259_285n, zs_259_286, zs_259_288, zs_259_290, zs_259_293, zs_259_296, zs_259_299, zs_259_299n, zs_259_300, zs_259_302, zs_259_302n, zs_259_303, zs_259_305, zs_259_308, zs_259_311, zs_259_314, zs_259_317, zs_259_317n, zs_259_318, zs_259_320, zs_259_322, zs_259_325, zs_259_328, zs_259_331, zs_259_331n, zs_259_332, zs_259_334, zs_259_337, zs_259_338, zs_259_341, zs_259_341n, zs_259_342, zs_259_344, zs_259_347, zs_259_350, zs_259_353, zs_259_354, zs_259_357, zs_259_358, zs_259_360, zs_259_361, zs_259_363, zs_259_365, zs_259_367, zs_259_370, zs_259_370n, zs_259_371, zs_259_373, zs_259_376, zs_259_376n, zs_259_377, zs_259_379, zs_259_381, zs_259_383, zs_259_384, zs_259_385, zs_259_388, zs_259_388n, zs_259_389, zs_259_391, zs_259_394, zs_259_395, zs_259_396, zs_259_397, zs_259_398, zs_259_400, zs_259_403, zs_259_405, zs_259_408, zs_259_408n, zs_259_409, zs_259_411, zs_259_413, zs_259_415, zs_259_416, zs_259_417, zs_259_419, zs_259_422, zs_259_425, zs_259_428, zs_259_429, zs_259_432, zs_259_433, zs_259_435, zs_259_438, zs_259_441, zs_259_444, zs_259_449, zs_259_452, zs_259_452n, zs_259_453, zs_259_455, zs_259_458, zs_259_461, zs_259_464, zs_259_464n, zs_259_465, zs_259_467, zs_259_470, zs_259_473, zs_259_476, zs_259_476n, zs_259_477, zs_259_478, zs_259_481, zs_259_484, zs_259_487, zs_259_487n, zs_259_488, zs_259_489, zs_259_492, zs_259_495, zs_259_498, zs_259_498n, zs_259_499, zs_259_500, zs_259_502, zs_259_505, zs_259_508, zs_259_511, zs_259_511n, zs_259_512, zs_259_513, zs_259_516, zs_259_519, zs_259_522, zs_259_522n, zs_259_523, zs_259_524, zs_259_527, zs_259_530, zs_259_533, zs_259_533n, zs_259_534, zs_259_535, zs_259_536, zs_259_539, zs_259_542, zs_259_545, zs_259_545n, zs_259_546, zs_259_547, zs_259_548, zs_259_551, zs_259_554, zs_259_557, zs_259_557n, zs_259_558, zs_259_559, zs_259_562, zs_259_565, zs_259_568, zs_259_568n, zs_259_569, zs_259_570, zs_259_573, zs_259_576, zs_259_579, zs_259_579n, zs_259_580, zs_259_581, zs_259_582, zs_259_585, zs_259_588, zs_259_591, zs_259_591n, zs_259_592, zs_259_593, zs_259_594, zs_259_597, zs_259_600, zs_259_603, zs_259_603n, zs_259_604, zs_259_605, zs_259_608, zs_259_611, zs_259_614, zs_259_614n, zs_259_615, zs_259_616, zs_259_619, zs_259_622, zs_259_625, zs_259_625n, zs_259_626, zs_259_627, zs_259_630, zs_259_633, zs_259_636, zs_259_636n, zs_259_637, zs_259_638, zs_259_641, zs_259_644, zs_259_647, zs_259_647n, zs_259_648, zs_259_649, zs_259_652, zs_259_655, zs_259_658, zs_259_658n, zs_259_659, zs_259_660, zs_259_663, zs_259_666, zs_259_669, zs_259_669n, zs_259_670, zs_259_671, zs_259_672, zs_259_675, zs_259_678, zs_259_681, zs_259_681n, zs_259_682, zs_259_683, zs_259_684, zs_259_687, zs_259_690, zs_259_693, zs_259_693n, zs_259_694, zs_259_695, zs_259_696, zs_259_699, zs_259_702, zs_259_705, zs_259_705n, zs_259_706, zs_259_707, zs_259_710, zs_259_713, zs_259_716, zs_259_716n, zs_259_717, zs_259_718, zs_259_721, zs_259_724, zs_259_727, zs_259_727n, zs_259_728, zs_259_731, zs_259_734, zs_259_737, zs_259_740, zs_259_740n, zs_259_741, zs_259_742, zs_259_745, zs_259_748, zs_259_751, zs_259_751n, zs_259_752, zs_259_753, zs_259_756, zs_259_759, zs_259_762, zs_259_762n, zs_259_763, zs_259_764, zs_259_767, zs_259_769, zs_259_770, zs_259_773, zs_259_773n, zs_259_774, zs_259_775, zs_259_778, zs_259_781, zs_259_782, zs_259_785, zs_259_786, zs_259_790, zs_259_793, zs_259_793n, zs_259_794, zs_259_797, zs_259_799, zs_259_802, zs_259_802n, zs_259_803, zs_259_806, zs_259_807, zs_259_808, zs_259_811, zs_259_812, zs_259_815, zs_259_816, zs_259_447, nI_1e0, yfc_s, e1, e2, e3, e4, e5, e6, e7, e8, e9, e10, e11, e12, e13, e14, e15, e16, e17, e18, e19, e20, e21, e22, e23, e24, e25, e26, e27, e28, e29, zbk_v, zts_s, zts_n, ↓reduceIte, List.cons_append, List.nil_append]
/-- thrown -/
theorem l_259 (hz : sv 0 = .int (nI 1)) (h3 : zty 4 (sv 3) = true) (hB : zBs sv h m b xs) (hc : zCls h m w) (hg : yGd (ycur w)) (h2 : 1 ≤ (ycur w).1.length) (h4 : (ycur w).1.length ≤ 4) : ∃ (h' : zH) (w' : yW), zcall zP sv (d + 51) 259 [.ref m] h = some (.inl (some (.int (nI 1))), h') ∧ zCls h' m w' ∧ ych0 w w' ∧ zfy m 25000 60000 h h' := by
  obtain ⟨M, h1M, hM, hR⟩ := id hg.1
  obtain ⟨t, ht⟩ : ∃ t, (ycur w).1[0]? = some t := ⟨_, List.getElem?_eq_getElem (by omega)⟩
  have hm := zCls_m hc
  obtain ⟨h1, o1, e1, c1, f1, q1⟩ := l_257 (sv := sv) (d := d) hz h3 hB hc hg.1
  have o700 := q1 h2
  have B1 := zBs_f hB hm f1
  obtain ⟨h2', e2, c2, f2⟩ := d_33 (sv := sv) (d := d + 2) c1
  have e2' : zcall zP sv (d + 50) 33 [.ref m] h1 = some (.inl (some (.int (nI (ycur w).1.length))), h2') := e2
  obtain ⟨h3', e3, c3, f3⟩ := d_66 (sv := sv) (d := d + 2) c2
  have e3' : zcall zP sv (d + 50) 66 [.ref m] h2' = some (.inl (some (.int (nI (yhis w).length))), h3') := e3
  have B3 := zBs_f B1 (zCls_m c1) (zfy_fx (zfx_tr f2 f3))
  obtain ⟨h5, e5, c5, f5⟩ := th_a (sv := sv) (d := d + 1) (n := (ycur w).1.length) (x1 := yask (ycur w)) (x4 := nI (yhis w).length) hz h3 B3 c3 rfl h4 (show (ycur (yso w o1)).1[0]? = some t from ht)
  obtain ⟨h6, l7, w7, e6, c6, f6⟩ := th_f (sv := sv) (d := d + 1) (n := (ycur w).1.length) (x1 := yask (ycur w)) (x4 := nI (yhis w).length) (w := ysb (yse (ysb (yso w o1) []) (nI 2)) []) rfl (by omega) hR h1M hM (ycur w).1.length 0 h5 .unset rfl (by omega) c5
  rw [nI_0] at e6
  obtain ⟨h7, e7, c7, f7⟩ := th_c (sv := sv) (d := d + 1) (n := (ycur w).1.length) (x1 := yask (ycur w)) (x4 := nI (yhis w).length) (l6 := .val (.int (nI (ycur w).1.length))) rfl w7 c6 rfl (show (ycur (yso w o1)).1[0]? = some t from ht) o700
  obtain ⟨h8, e8, c8, f8⟩ := d_66 (sv := sv) (d := d + 2) c7
  have e8' : zcall zP sv (d + 50) 66 [.ref m] h7 = some (.inl (some (.int (nI (yhis w).length))), h8) := e8
  have F := zfx_tr (zfx_tr (zfx_tr (zfx_tr (zfx_tr f2 f3) f5) f6) f7) f8
  have B8 := zBs_f B1 (zCls_m c1) (zfy_fx F)
  obtain ⟨h9, o9, e9, c9, f9, _⟩ := l_257 (sv := sv) (d := d) hz h3 B8 c8 (show yRg (ycur w) from hg.1)
  have e9' : zcall zP sv (d + 50) 257 [.ref m] h8 = some (.inl (some (.long (yask (ycur w)))), h9) := e9
  refine ⟨h9, _, ?_, c9, ⟨rfl, rfl, rfl, rfl⟩, zfy_mono (zfy_tr (zfy_tr f1 (zfy_fx F)) f9) (by omega) (by omega)⟩
  have r1 := zEC1 c1
  have r2 := zEC1 c2
  have r7 := zEC1 c7
  have p1 : zcall zP sv (d + 51) 259 [.ref m] h = zrun zP sv (zcall zP sv (d + 50)) 259 16 [.val (.ref m), .val (.long (yask (ycur w))), .second, .val (.int (nI (ycur w).1.length)), .val (.int (nI (yhis w).length)), .unset, .unset, .unset] [] h3' := by
    simp (disch := first | exact znw_u | exact znw_i) only [zc_259, zs_259_0, zs_259_0n, zs_259_1, zs_259_4, zs_259_4s, zs_259_5, zs_259_5n, zs_259_6, zs_259_9, zs_259_10, zs_259_10n, zs_259_11, zs_259_14, zs_259_17, zs_259_20, zs_259_23, zs_259_26, zs_259_29, zs_259_29n, zs_259_30, zs_259_33, zs_259_34, zs_259_37, zs_259_37n, zs_259_38, zs_259_41, zs_259_44, zs_259_45, zs_259_47, zs_259_50, zs_259_53, zs_259_56, zs_259_59, zs_259_62, zs_259_62n, zs_259_63, zs_259_64, zs_259_67, zs_259_70, zs_259_73, zs_259_73n, zs_259_74, zs_259_75, zs_259_78, zs_259_81, zs_259_84, zs_259_84n, zs_259_85, zs_259_86, zs_259_88, zs_259_91, zs_259_94, zs_259_97, zs_259_97n, zs_259_98, zs_259_99, zs_259_101, zs_259_104, zs_259_107, zs_259_110, zs_259_111, zs_259_113, zs_259_116, zs_259_116n, zs_259_117, zs_259_118, zs_259_120, zs_259_123, zs_259_126, zs_259_129, zs_259_129n, zs_259_130, zs_259_131, zs_259_133, zs_259_134, zs_259_137, zs_259_140, zs_259_143, zs_259_143n, zs_259_144, zs_259_145, zs_259_147, zs_259_148, zs_259_151, zs_259_154, zs_259_157, zs_259_157n, zs_259_158, zs_259_159, zs_259_161, zs_259_162, zs_259_165, zs_259_168, zs_259_171, zs_259_171n, zs_259_172, zs_259_174, zs_259_177, zs_259_180, zs_259_182, zs_259_185, zs_259_185n, zs_259_186, zs_259_188, zs_259_191, zs_259_194, zs_259_196, zs_259_199, zs_259_199n, zs_259_200, zs_259_202, zs_259_203, zs_259_206, zs_259_208, zs_259_211, zs_259_211n, zs_259_212, zs_259_213, zs_259_216, zs_259_219, zs_259_222, zs_259_222n, zs_259_223, zs_259_224, zs_259_227, zs_259_230, zs_259_233, zs_259_234, zs_259_237, zs_259_238, zs_259_240, zs_259_241, zs_259_243, zs_259_245, zs_259_246, zs_259_249, zs_259_251, zs_259_254, zs_259_254n, zs_259_255, zs_259_257, zs_259_258, zs_259_261, zs_259_264, zs_259_267, zs_259_267n, zs_259_268, zs_259_270, zs_259_270n, zs_259_271, zs_259_273, zs_259_276, zs_259_279, zs_259_282, zs_259_285, zs_259_285n, zs_259_286, zs_259_288, zs_259_290, zs_259_293, zs_259_296, zs_259_299, zs_259_299n, zs_259_300, zs_259_302, zs_259_302n, zs_259_303, zs_259_305, zs_259_308, zs_259_311, zs_259_314, zs_259_317, zs_259_317n, zs_259_318, zs_259_320, zs_259_322, zs_259_325, zs_259_328, zs_259_331, zs_259_331n, zs_259_332, zs_259_334, zs_259_337, zs_259_338, zs_259_341, zs_259_341n, zs_259_342, zs_259_344, zs_259_347, zs_259_350, zs_259_353, zs_259_354, zs_259_357, zs_259_358, zs_259_360, zs_259_361, zs_259_363, zs_259_365, zs_259_367, zs_259_370, zs_259_370n, zs_259_371, zs_259_373, zs_259_376, zs_259_376n, zs_259_377, zs_259_379, zs_259_381, zs_259_383, zs_259_384, zs_259_385, zs_259_388, zs_259_388n, zs_259_389, zs_259_391, zs_259_394, zs_259_395, zs_259_396, zs_259_397, zs_259_398, zs_259_400, zs_259_403, zs_259_405, zs_259_408, zs_259_408n, zs_259_409, zs_259_411, zs_259_413, zs_259_415, zs_259_416, zs_259_417, zs_259_419, zs_259_422, zs_259_425, zs_259_428, zs_259_429, zs_259_432, zs_259_433, zs_259_435, zs_259_438, zs_259_441, zs_259_444, zs_259_447, zs_259_449, zs_259_452, zs_259_452n, zs_259_453, zs_259_455, zs_259_458, zs_259_461, zs_259_464, zs_259_464n, zs_259_465, zs_259_467, zs_259_470, zs_259_473, zs_259_476, zs_259_476n, zs_259_477, zs_259_478, zs_259_481, zs_259_484, zs_259_487, zs_259_487n, zs_259_488, zs_259_489, zs_259_492, zs_259_495, zs_259_498, zs_259_498n, zs_259_499, zs_259_500, zs_259_502, zs_259_505, zs_259_508, zs_259_511, zs_259_511n, zs_259_512, zs_259_513, zs_259_516, zs_259_519, zs_259_522, zs_259_522n, zs_259_523, zs_259_524, zs_259_527, zs_259_530, zs_259_533, zs_259_533n, zs_259_534, zs_259_535, zs_259_536, zs_259_539, zs_259_542, zs_259_545, zs_259_545n, zs_259_546, zs_259_547, zs_259_548, zs_259_551, zs_259_554, zs_259_557, zs_259_557n, zs_259_558, zs_259_559, zs_259_562, zs_259_565, zs_259_568, zs_259_568n, zs_259_569, zs_259_570, zs_259_573, zs_259_576, zs_259_579, zs_259_579n, zs_259_580, zs_259_581, zs_259_582, zs_259_585, zs_259_588, zs_259_591, zs_259_591n, zs_259_592, zs_259_593, zs_259_594, zs_259_597, zs_259_600, zs_259_603, zs_259_603n, zs_259_604, zs_259_605, zs_259_608, zs_259_611, zs_259_614, zs_259_614n, zs_259_615, zs_259_616, zs_259_619, zs_259_622, zs_259_625, zs_259_625n, zs_259_626, zs_259_627, zs_259_630, zs_259_633, zs_259_636, zs_259_636n, zs_259_637, zs_259_638, zs_259_641, zs_259_644, zs_259_647, zs_259_647n, zs_259_648, zs_259_649, zs_259_652, zs_259_655, zs_259_658, zs_259_658n, zs_259_659, zs_259_660, zs_259_663, zs_259_666, zs_259_669, zs_259_669n, zs_259_670, zs_259_671, zs_259_672, zs_259_675, zs_259_678, zs_259_681, zs_259_681n, zs_259_682, zs_259_683, zs_259_684, zs_259_687, zs_259_690, zs_259_693, zs_259_693n, zs_259_694, zs_259_695, zs_259_696, zs_259_699, zs_259_702, zs_259_705, zs_259_705n, zs_259_706, zs_259_707, zs_259_710, zs_259_713, zs_259_716, zs_259_716n, zs_259_717, zs_259_718, zs_259_721, zs_259_724, zs_259_727, zs_259_727n, zs_259_728, zs_259_731, zs_259_734, zs_259_737, zs_259_740, zs_259_740n, zs_259_741, zs_259_742, zs_259_745, zs_259_748, zs_259_751, zs_259_751n, zs_259_752, zs_259_753, zs_259_756, zs_259_759, zs_259_762, zs_259_762n, zs_259_763, zs_259_764, zs_259_767, zs_259_769, zs_259_770, zs_259_773, zs_259_773n, zs_259_774, zs_259_775, zs_259_778, zs_259_781, zs_259_782, zs_259_785, zs_259_786, zs_259_788, zs_259_790, zs_259_793, zs_259_793n, zs_259_794, zs_259_797, zs_259_799, zs_259_802, zs_259_802n, zs_259_803, zs_259_806, zs_259_807, zs_259_808, zs_259_811, zs_259_812, zs_259_815, zs_259_816, e1, r1, e2', r2, e3', zbk_v, zts_s, zts_n, ↓reduceIte, List.cons_append, List.nil_append]
  have p2 : zrun zP sv (zcall zP sv (d + 50)) 259 240 [.val (.ref m), .val (.long (yask (ycur w))), .second, .val (.int (nI (ycur w).1.length)), .val (.int (nI (yhis w).length)), .val (.int (nI 1)), .unset, .unset] [] h5 = zrun zP sv (zcall zP sv (d + 50)) 259 243 [.val (.ref m), .val (.long (yask (ycur w))), .second, .val (.int (nI (ycur w).1.length)), .val (.int (nI (yhis w).length)), .val (.int (nI 1)), .val (.int 0), .unset] [] h5 := by
    simp (disch := first | exact znw_u | exact znw_i) only [zs_259_240, zs_259_241]
  rw [p1, e5, p2, e6, e7]
  simp (disch := first | exact znw_u | exact znw_i) only [zs_259_788, zs_259_790, zs_259_793, zs_259_794, zs_259_797, zs_259_799, zs_259_802, zs_259_803, zs_259_806, zs_259_807, zs_259_808, zs_259_811, zs_259_812, zs_259_816, nI_1e0, r7, e8', e9', lg_cmp_s, zty_51, zgd_t, zbk_v, zts_s, zts_n, ↓reduceIte, List.cons_append, List.nil_append]
end ZTH

section ZLW
variable {sv : Nat → Value} {d : Nat} {h : zH} {m b : Nat} {xs : List Int32} {w w' : yW}
def yLe : List Int32 := List.replicate 6 0
def yEa : yT := ymk (nI 118) (nI 97) .leaf .leaf
def yEb (k : Nat) : yT := ymk (nI 42) 0 (ymk (nI 118) (nI 98) .leaf .leaf) (ycn (nI k))
def yEu : yT := yins (nI 98) yEa (yEb 5)
def yEs : yT := ysim (yEb 1)
/-- a state of the first object -/
def wE (cs : List Int32) (e : Int32) (A : yA) (H : List yA) : yW := (cs, e, true, A, yA0, H, [])
def yE1 : yA := ([], yLe, nI 4, 0)
def yE2 : yA := ([yEa], yLe, nI 4, 0)
def yE3 : yA := ([yEa, yEb 1], yLe, nI 4, 0)
def yE4 : yA := ([yEa, yEb 1, yEb 2], yLe, nI 4, 0)
def yE5 : yA := ([yEa, yEb 1, yEb 2, yEb 3], yLe, nI 4, 0)
def yE6 : yA := ([yEa, yEb 1, yEb 2, yEb 3, yEb 4], yLe, nI 4, 0)
def yE7 : yA := ([yEa, yEb 1, yEb 2, yEb 3, yEb 4, yEb 5], yLe, nI 4, 0)
def yE8 : yA := ([yEa, yEb 1, yEb 2, yEb 3, yEb 4, yEu], yLe, nI 4, 0)
def yE9 : yA := ([yEa, yEs, yEb 2, yEb 3, yEb 4, yEu], yLe, nI 4, 0 + nI (ysz (yEb 1) - ysz yEs))
def yE10 : yA := ([yEs, yEb 2, yEb 3, yEb 4, yEu], yLe, nI 4, 0 + nI (ysz (yEb 1) - ysz yEs))
def yE11 : yA := ([yEs, yEb 2, yEb 3, yEb 4, yEu], ys yLe (nI 98 - nI 97) (-999), nI 4, 0 + nI (ysz (yEb 1) - ysz yEs))
theorem yE_d : ysz yEu = 3 ∧ ydp yEu = 2 ∧ ysz (yEb 1) - ysz yEs = 2 ∧ ysz yEs = 1 ∧ yoc (nI 98) (ypo 0 (yEb 5)) = 1 ∧ yg yLe (nI 98 - nI 97) = 0 ∧ ylet (nI 98) = true := by decide +kernel
theorem yadd_65 {cs : List Int32} (h0 : ycat cs 0 = nI 65) : yadd cs = (none, 0) := by
  have e : ypa cs 4000 0 none 0 0 = (none, 0) := by
    have u : ypa cs 3998 4 none 0 0 = (none, 0) := by
      have q : ypu cs 3997 0 0 = (none, 0) := by
        unfold ypu
        rw [h0, if_neg (fun q => absurd q.1 (by decide +kernel)), if_neg (by decide +kernel), if_neg (by decide +kernel)]
      show ypa cs (3997 + 1) 4 none 0 0 = (none, 0)
      rw [ypa_4, yng_0 (by rw [h0]; decide +kernel), Nat.add_zero, q]
      rfl
    show ypa cs (3999 + 1) 0 none 0 0 = (none, 0)
    rw [ypa_0]
    show ypa cs 3999 1 (ypa cs (3998 + 1) 2 none 0 0).1 0 (ypa cs (3998 + 1) 2 none 0 0).2 = _
    rw [ypa_2, u]
    show ypa cs 3999 1 (ypa cs (3997 + 1) 3 none 0 0).1 0 (ypa cs (3997 + 1) 3 none 0 0).2 = _
    rw [ypa_3n]
    show ypa cs (3998 + 1) 1 none 0 0 = _
    rw [ypa_1n]
  unfold yadd
  rw [e]
  show ((if 0 = cs.length then none else none), 0) = ((none, 0) : Option yT × Nat)
  rw [ite_self]
theorem y65 : ∀ k, k < 60 → ynr (((nI 65 + nI k).toUInt32 % 65536).toInt32) = nI (65 + k) := by decide +kernel
/-- the beginning -/
theorem lw_1 (hz : sv 0 = .int (nI 1)) (hS : zSt0 sv h b xs) : ∃ h', zcall zP sv (d + 52) 215 [.ref b] h = zrun zP sv (zcall zP sv (d + 51)) 215 48 [.val (.ref b), .val (.ref h.2.1), .val (.int 0), .unset, .unset, .unset, .unset, .unset, .unset, .unset, .unset] [] h' ∧ zCls h' h.2.1 (wE [] (-1) yE1 [yA0]) ∧ zBs sv h' h.2.1 b xs ∧ h'.2.1 ≤ h.2.1 + 200 ∧ h'.2.2 ≤ h.2.2 + 4000 := by
  have eN : zcall zP sv (d + 51) 23 [.ref h.2.1] (znew h (1, [.null, .int 0, .null, .null, .int 0, .null, .null, .null, .null, .null, .null, .null, .null]) 13) = some (.inl none, zext h (zC1 h.2.1) 3070) := by
    rw [zext_of]
    exact c_new (d := d + 46) hz
  have rn : ∀ X : zR, zrc ((znew h (1, [.null, .int 0, .null, .null, .int 0, .null, .null, .null, .null, .null, .null, .null, .null]) 13).1 h.2.1) 1 X = X := fun X => by rw [znew_at]; exact zrc_k
  have B0 : zBs sv (zext h (zC1 h.2.1) 3070) h.2.1 b xs := zBs_q (h := h) ⟨hS.2.2.1, hS.2.2.2.1, hS.2.2.2.2⟩ (fun q hq => zext_lo hq) (Nat.le_refl _)
  have c0 : zCls (zext h (zC1 h.2.1) 3070) h.2.1 yw0 := zfr_cls
  have z1 : (zext h (zC1 h.2.1) 3070).2.1 = h.2.1 + 119 := rfl
  have z2 : (zext h (zC1 h.2.1) 3070).2.2 = h.2.2 + 3070 := rfl
  generalize zext h (zC1 h.2.1) 3070 = h0 at *
  obtain ⟨h1, e1, c1, f1⟩ := h_250e0 c0 (d_67n (sv := sv) (d := d + 44) c0 rfl)
  obtain ⟨h2, e2, c2, f2⟩ := h_251e0 c1 (d_69n (sv := sv) (d := d + 44) c1 rfl)
  obtain ⟨h3, e3, c3, f3⟩ := d_68 (sv := sv) (d := d + 45) c2
  have e3' : zcall zP sv (d + 51) 68 [.ref h.2.1] h2 = some (.inl (some (.int (nI 0))), h3) := e3
  rw [nI_0] at e3'
  have c3' : zCls h3 h.2.1 (wE [] (-1) yA0 []) := c3
  obtain ⟨h4, e4, c4, f4⟩ := h_225v c3' (d_32 (sv := sv) (d := d + 44) (x := nI 4) c3' (nI_nlt (by decide) (by decide)) (nI_nlt (by decide) (by decide)))
  have e4' : zcall zP sv (d + 51) 225 [.ref h.2.1, .int (nI 4)] h3 = some (.inl (some (.int (nI 2))), h4) := e4
  have F := zfx_tr (zfx_tr (zfx_tr f1 f2) f3) f4
  have g1 := F.2.2.1
  have g2 := F.2.2.2
  refine ⟨h4, ?_, c4, zBs_f B0 (by omega) (zfy_fx F), by omega, by omega⟩
  have r2 := zEC1 c2
  simp (disch := first | exact znw_u | exact znw_i | exact znw_r) only [zc_215, zs_215_0, zs_215_3, zs_215_4, zs_215_7, zs_215_8, zs_215_9, zs_215_12, zs_215_15, zs_215_18, zs_215_19, zs_215_22, zs_215_25, zs_215_28, zs_215_29, zs_215_32, zs_215_35, zs_215_36, zs_215_37, zs_215_40, zs_215_41, zs_215_46, zs_215_47, rn, eN, e1, e2, r2, e3', e4', zbk_v, zts_s, zts_n, ↓reduceIte, List.cons_append, List.nil_append]
theorem lw_f : ∀ j k (cs : List Int32) (h : zH), k + j = 60 → zCls h m (wE cs (-1) yE1 [yA0]) → cs.length = k → (k = 0 ∨ ycat cs 0 = nI 65) → ∃ (h' : zH) (cs' : List Int32), zrun zP sv (zcall zP sv (d + 51)) 215 48 [.val (.ref b), .val (.ref m), .val (.int (nI k)), .unset, .unset, .unset, .unset, .unset, .unset, .unset, .unset] [] h = zrun zP sv (zcall zP sv (d + 51)) 215 77 [.val (.ref b), .val (.ref m), .val (.int (nI 60)), .unset, .unset, .unset, .unset, .unset, .unset, .unset, .unset] [] h' ∧ zCls h' m (wE cs' (-1) yE1 [yA0]) ∧ cs'.length = 60 ∧ ycat cs' 0 = nI 65 ∧ zfx m (m + 119) j (6 * j) h h' := by
  intro j
  induction j with
  | zero =>
    intro k cs h hk hc hl h0
    obtain rfl : k = 60 := by omega
    have c : ¬ nI 60 < nI 60 := nI_nlt (Nat.le_refl _) (by decide)
    refine ⟨h, cs, ?_, hc, hl, h0.resolve_left (by decide), zfx_rfl⟩
    simp (disch := first | exact znw_u | exact znw_i | exact znw_r) only [zs_215_48, zs_215_49, zs_215_51, if_neg c]
  | succ j ih =>
    intro k cs h hk hc hl h0
    have c : nI k < nI 60 := nI_lt (by omega) (by decide)
    have e24 := d_24 (sv := sv) (d := d + 47) (x := ((nI 65 + nI k).toUInt32 % 65536).toInt32) hc
    have hl' : (wE cs (-1) yE1 [yA0]).1.length = k := hl
    rw [if_pos (by omega), if_pos (by omega), y65 k (by omega), hl'] at e24
    obtain ⟨h1, e1, c1, f1⟩ := h_218v hc e24
    have c1' : zCls h1 m (wE (cs ++ [nI (65 + k)]) (-1) yE1 [yA0]) := c1
    obtain ⟨h2, cs2, e2, c2, g1, g2, f2⟩ := ih (k + 1) (cs ++ [nI (65 + k)]) h1 (by omega) c1' (by rw [List.length_append, hl]; rfl) (Or.inr (by
      by_cases z : k = 0
      · have : cs = [] := List.length_eq_zero_iff.mp (by omega)
        rw [this, z]
        rfl
      · rw [← h0.resolve_left z]
        unfold ycat
        rw [List.getD_eq_getElem?_getD, List.getD_eq_getElem?_getD, List.getElem?_append_left (by omega)]))
    refine ⟨h2, cs2, ?_, c2, g1, g2, zfx_mono (zfx_tr f1 f2) (Nat.le_refl _) (Nat.le_refl _) (by omega) (by omega)⟩
    rw [← e2]
    simp (disch := first | exact znw_u | exact znw_i | exact znw_r) only [zs_215_48, zs_215_49, zs_215_51, zs_215_54, zs_215_55, zs_215_57, zs_215_58, zs_215_59, zs_215_60, zs_215_63, zs_215_64, zs_215_65, zs_215_66, zs_215_71, zs_215_74, if_pos c, e1, nI_p1, zbk_v, zts_s, zts_n, ↓reduceIte, List.cons_append, List.nil_append]
theorem lw_2 {cs : List Int32} (hc : zCls h m (wE cs (-1) yE1 [yA0])) (hl : cs.length = 60) (h0 : ycat cs 0 = nI 65) : ∃ h', zrun zP sv (zcall zP sv (d + 51)) 215 77 [.val (.ref b), .val (.ref m), .val (.int (nI 60)), .unset, .unset, .unset, .unset, .unset, .unset, .unset, .unset] [] h = zrun zP sv (zcall zP sv (d + 51)) 215 135 [.val (.ref b), .val (.ref m), .val (.int (nI 1)), .unset, .unset, .unset, .unset, .unset, .unset, .unset, .unset] [] h' ∧ zCls h' m (wE [] (nI 0) yE2 [yE1, yA0]) ∧ zfx m (m + 119) 50 500 h h' := by
  have e24 := d_24 (sv := sv) (d := d + 47) (x := nI 97) hc
  have hl' : (wE cs (-1) yE1 [yA0]).1.length = 60 := hl
  rw [if_neg (by omega), if_neg (by omega)] at e24
  obtain ⟨h1, e1, c1, f1⟩ := h_218e0 hc e24
  have A2 := h_219 (sv := sv) (d := d + 3) c1
  have q2 : yaddF (wE cs (-1) yE1 [yA0]) = (.inr 1, wE [] (nI 0) yE1 [yA0]) := by
    have e : yadd (wE cs (-1) yE1 [yA0]).1 = (none, 0) := yadd_65 h0
    unfold yaddF
    rw [e]
    rfl
  rw [q2] at A2
  obtain ⟨h2, e2, c2, f2⟩ := A2
  have c2' : zCls h2 m (wE [] (nI 0) yE1 [yA0]) := c2
  have e2' : zcall zP sv (d + 51) 219 [.ref m] h1 = some (.inl (some (.int (-1001))), h2) := e2
  obtain ⟨h3, e3, c3, f3⟩ := h_249v c2' (d_65 (sv := sv) (d := d + 2) c2' (show ¬ nI 0 = -1 by decide +kernel))
  have e3' : zcall zP sv (d + 51) 249 [.ref m] h2 = some (.inl (some (.int (nI 0))), h3) := e3
  rw [nI_0] at e3'
  have e24' := d_24 (sv := sv) (d := d + 47) (x := nI 97) c3
  have hl3 : (wE [] (nI 0) yE1 [yA0]).1.length = 0 := rfl
  rw [if_pos (by omega), if_pos (by omega), (yas7d 97 (by decide)).2.2.2] at e24'
  obtain ⟨h4, e4, c4, f4⟩ := h_218v c3 e24'
  have e4' : zcall zP sv (d + 51) 218 [.ref m, .int (nI 97)] h3 = some (.inl (some (.int (nI 1))), h4) := e4
  have c4' : zCls h4 m (ysb (wE [] (nI 0) yE1 [yA0]) [nI 97]) := c4
  have A5 := h_219 (sv := sv) (d := d + 3) c4'
  rw [yadd_k (n := 0) (t := yEa) (w := wE [] (nI 0) yE1 [yA0]) (by decide) (Or.inl ⟨0, by decide, rfl, rfl⟩) (by decide)] at A5
  obtain ⟨h5, e5, c5, f5⟩ := A5
  have e5' : zcall zP sv (d + 51) 219 [.ref m] h4 = some (.inl (some (.int (nI 0))), h5) := e5
  rw [nI_0] at e5'
  have c5' : zCls h5 m (wE [] (nI 0) yE2 [yE1, yA0]) := c5
  obtain ⟨h6, e6, c6, f6⟩ := d_66 (sv := sv) (d := d + 3) c5'
  have e6' : zcall zP sv (d + 51) 66 [.ref m] h5 = some (.inl (some (.int (nI 2))), h6) := e6
  refine ⟨h6, ?_, c6, zfx_mono (zfx_tr (zfx_tr (zfx_tr (zfx_tr (zfx_tr f1 f2) f3) f4) f5) f6) (Nat.le_refl _) (Nat.le_refl _) (by omega) (by omega)⟩
  have r5 := zEC1 c5'
  simp (disch := first | exact znw_u | exact znw_i | exact znw_r) only [zs_215_0, zs_215_3, zs_215_4, zs_215_7, zs_215_7n, zs_215_8, zs_215_8n, zs_215_9, zs_215_12, zs_215_15, zs_215_18, zs_215_18n, zs_215_19, zs_215_22, zs_215_25, zs_215_28, zs_215_28n, zs_215_29, zs_215_32, zs_215_35, zs_215_35n, zs_215_36, zs_215_37, zs_215_40, zs_215_41, zs_215_44, zs_215_45, zs_215_46, zs_215_47, zs_215_49, zs_215_51, zs_215_54, zs_215_54n, zs_215_55, zs_215_57, zs_215_58, zs_215_59, zs_215_60, zs_215_63, zs_215_64, zs_215_65, zs_215_66, zs_215_69, zs_215_70, zs_215_71, zs_215_74, zs_215_77, zs_215_77n, zs_215_78, zs_215_80, zs_215_83, zs_215_86, zs_215_89, zs_215_89n, zs_215_90, zs_215_93, zs_215_96, zs_215_99, zs_215_99n, zs_215_100, zs_215_103, zs_215_106, zs_215_106n, zs_215_107, zs_215_109, zs_215_112, zs_215_113, zs_215_116, zs_215_116n, zs_215_117, zs_215_120, zs_215_123, zs_215_123n, zs_215_124, zs_215_127, zs_215_128, zs_215_131, zs_215_132, zs_215_133, zs_215_134, zs_215_136, zs_215_138, zs_215_141, zs_215_141n, zs_215_142, zs_215_145, zs_215_146, zs_215_149, zs_215_152, zs_215_155, zs_215_156, zs_215_159, zs_215_162, zs_215_165, zs_215_166, zs_215_169, zs_215_170, zs_215_171, zs_215_174, zs_215_178, zs_215_181, zs_215_184, zs_215_187, zs_215_190, zs_215_190n, zs_215_191, zs_215_192, zs_215_194, zs_215_195, zs_215_198, zs_215_199, zs_215_202, zs_215_202n, zs_215_203, zs_215_204, zs_215_207, zs_215_208, zs_215_211, zs_215_211n, zs_215_212, zs_215_213, zs_215_216, zs_215_217, zs_215_220, zs_215_220n, zs_215_221, zs_215_223, zs_215_226, zs_215_229, zs_215_232, zs_215_232n, zs_215_233, zs_215_236, zs_215_238, zs_215_241, zs_215_242, zs_215_243, zs_215_243n, zs_215_244, zs_215_247, zs_215_249, zs_215_252, zs_215_252n, zs_215_253, zs_215_255, zs_215_258, zs_215_261, zs_215_261n, zs_215_262, zs_215_265, zs_215_267, zs_215_270, zs_215_270n, zs_215_271, zs_215_274, zs_215_276, zs_215_279, zs_215_279n, zs_215_280, zs_215_281, zs_215_284, zs_215_285, zs_215_288, zs_215_288n, zs_215_289, zs_215_292, zs_215_293, zs_215_296, zs_215_296n, zs_215_297, zs_215_298, zs_215_301, zs_215_302, zs_215_305, zs_215_305n, zs_215_306, zs_215_309, zs_215_312, zs_215_312n, zs_215_313, zs_215_316, zs_215_317, zs_215_320, zs_215_320n, zs_215_321, zs_215_322, zs_215_324, zs_215_327, zs_215_328, zs_215_331, zs_215_331n, zs_215_332, zs_215_335, zs_215_336, zs_215_339, zs_215_339n, zs_215_340, zs_215_343, zs_215_344, zs_215_347, zs_215_347n, zs_215_348, zs_215_351, zs_215_352, zs_215_355, zs_215_355n, zs_215_356, zs_215_359, zs_215_360, zs_215_363, zs_215_363n, zs_215_364, zs_215_367, zs_215_370, zs_215_370n, zs_215_371, zs_215_374, zs_215_375, zs_215_378, zs_215_378n, zs_215_379, zs_215_382, zs_215_383, zs_215_386, zs_215_386n, zs_215_387, zs_215_390, zs_215_393, zs_215_396, zs_215_397, zs_215_399, zs_215_402, zs_215_405, zs_215_405n, zs_215_406, zs_215_409, zs_215_412, zs_215_412n, zs_215_413, zs_215_416, zs_215_417, zs_215_420, zs_215_420n, zs_215_421, zs_215_424, zs_215_427, zs_215_430, zs_215_431, zs_215_435, zs_215_436, zs_215_439, zs_215_439n, zs_215_440, zs_215_440n, zs_215_441, zs_215_441n, zs_215_442, zs_215_445, zs_215_448, zs_215_449, zs_215_450, zs_215_450n, zs_215_451, zs_215_454, zs_215_454s, zs_215_455, zs_215_455n, zs_215_456, zs_215_459, zs_215_460, zs_215_461, zs_215_464, zs_215_464n, zs_215_465, zs_215_468, zs_215_471, zs_215_472, zs_215_473, zs_215_473n, zs_215_474, zs_215_477, zs_215_479, zs_215_481, zs_215_481n, zs_215_482, zs_215_485, zs_215_488, zs_215_488n, zs_215_489, zs_215_492, zs_215_493, zs_215_494, zs_215_497, zs_215_497n, zs_215_498, zs_215_501, zs_215_503, zs_215_506, zs_215_506n, zs_215_507, zs_215_510, zs_215_513, zs_215_514, zs_215_515, zs_215_517, zs_215_519, zs_215_519n, zs_215_521, zs_215_522, zs_215_524, zs_215_525, zs_215_527, zs_215_529, zs_215_531, zs_215_534, zs_215_534n, zs_215_535, zs_215_538, zs_215_538s, zs_215_540, zs_215_540n, zs_215_541, zs_215_541n, zs_215_542, zs_215_544, zs_215_546, zs_215_547, zs_215_550, zs_215_552, zs_215_555, zs_215_556, zs_215_557, zs_215_560, zs_215_563, zs_215_563n, zs_215_565, zs_215_567, zs_215_570, zs_215_572, zs_215_573, zs_215_576, zs_215_576n, zs_215_577, zs_215_580, zs_215_582, zs_215_583, zs_215_586, zs_215_587, zs_215_588, zs_215_588n, zs_215_589, zs_215_592, zs_215_594, zs_215_597, zs_215_598, zs_215_599, zs_215_602, zs_215_605, zs_215_606, zs_215_608, zs_215_610, zs_215_612, zs_215_615, zs_215_615n, zs_215_616, zs_215_619, zs_215_621, zs_215_623, zs_215_624, zs_215_627, zs_215_627n, zs_215_628, zs_215_631, zs_215_631n, zs_215_633, zs_215_635, zs_215_637, zs_215_638, zs_215_639, zs_215_640, zs_215_643, zs_215_644, zs_215_645, zs_215_648, zs_215_651, zs_215_651n, zs_215_652, zs_215_655, zs_215_658, zs_215_661, zs_215_661n, zs_215_662, zs_215_665, zs_215_667, zs_215_670, zs_215_670n, zs_215_671, zs_215_674, zs_215_675, zs_215_676, zs_215_679, zs_215_679n, zs_215_680, zs_215_683, zs_215_686, zs_215_689, zs_215_690, zs_215_693, zs_215_694, e1, e2', e3', e4', e5', r5, e6', zbk_v, zts_s, zts_n, ↓reduceIte, List.cons_append, List.nil_append]
/-- one text more -/
theorem lw_3 {k : Nat} (hz : sv 0 = .int (nI 1)) (h3 : zty 4 (sv 3) = true) (hB : zBs sv h m b xs) (hc : zCls h m w) (hk : 1 ≤ k) (hk5 : k ≤ 5) (hl : (ycur w).1.length = k) : ∃ h', zrun zP sv (zcall zP sv (d + 51)) 215 135 [.val (.ref b), .val (.ref m), .val (.int (nI k)), .unset, .unset, .unset, .unset, .unset, .unset, .unset, .unset] [] h = zrun zP sv (zcall zP sv (d + 51)) 215 135 [.val (.ref b), .val (.ref m), .val (.int (nI (k + 1))), .unset, .unset, .unset, .unset, .unset, .unset, .unset, .unset] [] h' ∧ zCls h' m (ysc (yrec (ysb w [])) ((ycur w).1 ++ [yEb k], (ycur w).2)) ∧ zBs sv h' m b xs ∧ zfx m (m + 119) 1100 2700 h h' := by
  have hm := zCls_m hc
  have hm9 := hc.1
  obtain ⟨h1, hh1⟩ : ∃ h1, h1 = zext h [(2, [.ref (h.2.1 + 1), .int 0, .int 0, .int 0]), (24, List.replicate 16 (.int 0))] 20 := ⟨_, rfl⟩
  have e0 : zcall zP sv (d + 51) 0 [.ref h.2.1] (znew h (2, [.null, .int 0, .int 0, .int 0]) 4) = _ := c_sbn (d := d + 49) hz
  rw [← hh1] at e0
  have rn : ∀ X : zR, zrc ((znew h (2, [.null, .int 0, .int 0, .int 0]) 4).1 h.2.1) 2 X = X := fun X => by rw [znew_at]; exact zrc_k
  have B1 := zBd_0 hh1
  have K1 := zKs_q (zBs_K hB hm) B1.2.2.1 B1.2.2.2.1
  obtain ⟨c9, a9, k9, t9, u9⟩ := zKs_at K1 (i := 9) (by decide)
  have k9' : sv 13 = .ref c9 := k9
  have t9' : zStr h1 c9 a9 [nI 98, nI 42] := t9
  have ne1 : a9 ≠ h.2.1 + 1 := fun q => by
    have := (zBl_k B1.1).2
    rw [q, this] at u9
    exact absurd u9 (by decide)
  obtain ⟨h2, v2, b2, e2, B2, _, _⟩ := zBd_ad B1 (s_201 (d := d + 46) hz B1.1 t9' ne1 (by show 0 + 2 ≤ 450; decide))
  have D2 := zDg_q (zBs_D hB hm) B2.2.2.1 B2.2.2.2.1
  obtain ⟨h3', v3, b3, e3, B3, _, _⟩ := zBd_ad B2 (d_9 (sv := sv) (d := d + 46) (x := nI k) hz D2 B2.1 (by show 0 + 2 + 11 ≤ 450; decide))
  have r1 := zBd_rc B1
  have r2 := zBd_rc B2
  have r3 := zBd_rc B3
  have T : yTx 1 ([nI 98, nI 42] ++ yits (nI k)) (yEb k) := by
    have l1 : yLf [nI 98] (ymk (nI 118) (nI 98) .leaf .leaf) := Or.inl ⟨1, by decide, rfl, rfl⟩
    have l2 : yLf (yits (nI k)) (ycn (nI k)) := Or.inr ⟨k, by omega, rfl, rfl⟩
    refine Or.inr (Or.inr ⟨42, [nI 98], _, yits (nI k), _, Or.inl rfl, l1, l2, ?_, rfl⟩)
    rw [yLf_in l1, yLf_in l2]
    rfl
  obtain ⟨_, pl, pa, _⟩ := yTx_p _ _ _ T
  have eo : [] ++ [nI 98, nI 42] ++ yits (nI k) = [nI 98, nI 42] ++ yits (nI k) := rfl
  rw [eo] at B3
  have pl' : ([nI 98, nI 42] ++ yits (nI k)).length + 5 ≤ 14 := pl
  obtain ⟨h4, s4, a4, e4, S4, ⟨g4, g4'⟩, n4⟩ := zBd_to (d := d + 45) hz B3 (by omega) pa
  have c4 : zCls h4 m w := zCls_new hc n4.1 n4.2.1
  have L := l_253 (d := d + 2) hz h3 c4 S4 (Or.inr (by omega)) (Or.inr (by omega))
  rw [yadd_k (n := 1) (t := yEb k) (w := w) (by decide) T (by omega)] at L
  obtain ⟨h5, e5, c5, f5⟩ := L
  have e5' : zcall zP sv (d + 51) 253 [.ref m, .ref s4] h4 = some (.inl (some (.int (nI k))), h5) := by rw [← hl]; exact e5
  have F := zfx_tr (zns_fx (lo := m) (hi := m + 119) n4) f5
  refine ⟨h5, ?_, c5, zBs_f hB hm (zfy_fx F), zfx_mono F (Nat.le_refl _) (Nat.le_refl _) (by omega) (by omega)⟩
  have c : nI k < nI 6 := nI_lt (by omega) (by decide)
  rw [zs_215_135, zs_215_136, zs_215_138, if_pos c]
  simp (disch := first | exact znw_u | exact znw_i | exact znw_r) only [zs_215_141, zs_215_142, zs_215_145, zs_215_146, zs_215_149, zs_215_152, zs_215_155, zs_215_156, zs_215_159, zs_215_162, zs_215_165, zs_215_166, zs_215_171, zs_215_174, rn, e0, k9', r1, e2, r2, e3, r3, e4, e5', nI_p1, zbk_v, zts_s, zts_n, ↓reduceIte, List.cons_append, List.nil_append]
theorem lw_4 (hz : sv 0 = .int (nI 1)) (hy3 : zty 4 (sv 3) = true) (hB : zBs sv h m b xs) (hc : zCls h m (wE [] (nI 0) yE2 [yE1, yA0])) : ∃ h', zrun zP sv (zcall zP sv (d + 51)) 215 135 [.val (.ref b), .val (.ref m), .val (.int (nI 1)), .unset, .unset, .unset, .unset, .unset, .unset, .unset, .unset] [] h = zrun zP sv (zcall zP sv (d + 51)) 215 177 [.val (.ref b), .val (.ref m), .val (.int (nI 6)), .unset, .unset, .unset, .unset, .unset, .unset, .unset, .unset] [] h' ∧ zCls h' m (wE [] (nI 0) yE7 [yE6, yE5, yE4, yE3, yE2, yE1, yA0]) ∧ zBs sv h' m b xs ∧ zfx m (m + 119) 5500 13500 h h' := by
  obtain ⟨h1, e1, c1, B1, f1⟩ := lw_3 (d := d) (k := 1) hz hy3 hB hc (by decide) (by decide) rfl
  have c1' : zCls h1 m (wE [] (nI 0) yE3 [yE2, yE1, yA0]) := c1
  have e1' : zrun zP sv (zcall zP sv (d + 51)) 215 135 [.val (.ref b), .val (.ref m), .val (.int (nI 1)), .unset, .unset, .unset, .unset, .unset, .unset, .unset, .unset] [] h = zrun zP sv (zcall zP sv (d + 51)) 215 135 [.val (.ref b), .val (.ref m), .val (.int (nI 2)), .unset, .unset, .unset, .unset, .unset, .unset, .unset, .unset] [] h1 := e1
  obtain ⟨h2, e2, c2, B2, f2⟩ := lw_3 (d := d) (k := 2) hz hy3 B1 c1' (by decide) (by decide) rfl
  have c2' : zCls h2 m (wE [] (nI 0) yE4 [yE3, yE2, yE1, yA0]) := c2
  have e2' : zrun zP sv (zcall zP sv (d + 51)) 215 135 [.val (.ref b), .val (.ref m), .val (.int (nI 2)), .unset, .unset, .unset, .unset, .unset, .unset, .unset, .unset] [] h1 = zrun zP sv (zcall zP sv (d + 51)) 215 135 [.val (.ref b), .val (.ref m), .val (.int (nI 3)), .unset, .unset, .unset, .unset, .unset, .unset, .unset, .unset] [] h2 := e2
  obtain ⟨h3, e3, c3, B3, f3⟩ := lw_3 (d := d) (k := 3) hz hy3 B2 c2' (by decide) (by decide) rfl
  have c3' : zCls h3 m (wE [] (nI 0) yE5 [yE4, yE3, yE2, yE1, yA0]) := c3
  have e3' : zrun zP sv (zcall zP sv (d + 51)) 215 135 [.val (.ref b), .val (.ref m), .val (.int (nI 3)), .unset, .unset, .unset, .unset, .unset, .unset, .unset, .unset] [] h2 = zrun zP sv (zcall zP sv (d + 51)) 215 135 [.val (.ref b), .val (.ref m), .val (.int (nI 4)), .unset, .unset, .unset, .unset, .unset, .unset, .unset, .unset] [] h3 := e3
  obtain ⟨h4, e4, c4, B4, f4⟩ := lw_3 (d := d) (k := 4) hz hy3 B3 c3' (by decide) (by decide) rfl
  have c4' : zCls h4 m (wE [] (nI 0) yE6 [yE5, yE4, yE3, yE2, yE1, yA0]) := c4
  have e4' : zrun zP sv (zcall zP sv (d + 51)) 215 135 [.val (.ref b), .val (.ref m), .val (.int (nI 4)), .unset, .unset, .unset, .unset, .unset, .unset, .unset, .unset] [] h3 = zrun zP sv (zcall zP sv (d + 51)) 215 135 [.val (.ref b), .val (.ref m), .val (.int (nI 5)), .unset, .unset, .unset, .unset, .unset, .unset, .unset, .unset] [] h4 := e4
  obtain ⟨h5, e5, c5, B5, f5⟩ := lw_3 (d := d) (k := 5) hz hy3 B4 c4' (by decide) (by decide) rfl
  have c5' : zCls h5 m (wE [] (nI 0) yE7 [yE6, yE5, yE4, yE3, yE2, yE1, yA0]) := c5
  have e5' : zrun zP sv (zcall zP sv (d + 51)) 215 135 [.val (.ref b), .val (.ref m), .val (.int (nI 5)), .unset, .unset, .unset, .unset, .unset, .unset, .unset, .unset] [] h4 = zrun zP sv (zcall zP sv (d + 51)) 215 135 [.val (.ref b), .val (.ref m), .val (.int (nI 6)), .unset, .unset, .unset, .unset, .unset, .unset, .unset, .unset] [] h5 := e5
  refine ⟨h5, ?_, c5', B5, zfx_mono (zfx_tr (zfx_tr (zfx_tr (zfx_tr f1 f2) f3) f4) f5) (Nat.le_refl _) (Nat.le_refl _) (by decide) (by decide)⟩
  have c : ¬ nI 6 < nI 6 := nI_nlt (Nat.le_refl _) (by decide)
  rw [e1', e2', e3', e4', e5', zs_215_135, zs_215_136, zs_215_138, if_neg c]
theorem lw_5 (hz : sv 0 = .int (nI 1)) (h3 : zty 4 (sv 3) = true) (hB : zBs sv h m b xs) (hc : zCls h m (wE [] (nI 0) yE7 [yE6, yE5, yE4, yE3, yE2, yE1, yA0])) : ∃ h', zrun zP sv (zcall zP sv (d + 51)) 215 177 [.val (.ref b), .val (.ref m), .val (.int (nI 6)), .unset, .unset, .unset, .unset, .unset, .unset, .unset, .unset] [] h = zrun zP sv (zcall zP sv (d + 51)) 215 243 [.val (.ref b), .val (.ref m), .val (.int (nI 6)), .unset, .unset, .unset, .unset, .unset, .unset, .unset, .unset] [] h' ∧ zCls h' m (wE [] (nI 0) yE11 [yE10, yE9, yE8, yE7, yE6, yE5, yE4, yE3]) ∧ zfx m (m + 119) 300 2500 h h' := by
  obtain ⟨q1, q2, q3, q4, q5, q6, q7⟩ := yE_d
  have hm := zCls_m hc
  obtain ⟨s10, a10, k10, u10, v10, o10, p10⟩ := hB.2.2 10 (by decide)
  have k10' : sv 14 = .ref s10 := k10
  have S10' : zStr h s10 a10 [nI 97] := ⟨Or.inr ⟨u10, v10⟩, by omega, by omega, (zbyt_ok (i := 10) (by decide)).1, (zbyt_ok (i := 10) (by decide)).2⟩
  have A1 := l_253 (d := d + 2) hz h3 hc S10' (Or.inl o10) (Or.inl p10)
  have qa : (yadd [nI 97]).1 = some yEa := by rw [yTx_add (n := 0) (t := yEa) (by decide) (Or.inl ⟨0, by decide, rfl, rfl⟩)]
  rw [yaddF_6 (w := wE [] (nI 0) yE7 [yE6, yE5, yE4, yE3, yE2, yE1, yA0]) qa rfl] at A1
  obtain ⟨h1, e1, c1, f1⟩ := A1
  have e1' : zcall zP sv (d + 51) 253 [.ref m, .ref s10] h = some (.inl (some (.int (-1002))), h1) := e1
  have c1' : zCls h1 m (wE [] (nI 0) yE7 [yE6, yE5, yE4, yE3, yE2, yE1, yA0]) := c1
  have A2 := d_30 (sv := sv) (d := d + 2) (i := 5) (j := 0) (t := yEb 5) (u := yEa) (c := nI 98) c1' rfl rfl
  have z2 : yinsF (wE [] (nI 0) yE7 [yE6, yE5, yE4, yE3, yE2, yE1, yA0]) 5 (yEb 5) (nI 98) yEa = (.inl (some (.int (nI (ysz yEu)))), ysc (yrec (wE [] (nI 0) yE7 [yE6, yE5, yE4, yE3, yE2, yE1, yA0])) (yE7.1.set 5 yEu, yE7.2)) := (if_neg (by rw [q7]; decide)).trans (if_pos ⟨by show ysz yEu ≤ 31; omega, by show ydp yEu ≤ 8; omega⟩)
  rw [z2, q1] at A2
  obtain ⟨h2, e2, c2, f2⟩ := h_223v c1' A2
  have e2' : zcall zP sv (d + 51) 223 [.ref m, .int (nI 5), .int (nI 98), .int 0] h1 = some (.inl (some (.int (nI 3))), h2) := by
    rw [← nI_0]
    exact e2
  have c2' : zCls h2 m (wE [] (nI 0) yE8 [yE7, yE6, yE5, yE4, yE3, yE2, yE1, yA0]) := c2
  have A3 := d_28 (sv := sv) (d := d + 3) (i := 1) (t := yEb 1) c2' rfl
  obtain ⟨h3, e3, c3, f3⟩ := h_221v c2' A3
  have e3' : zcall zP sv (d + 51) 221 [.ref m, .int (nI 1)] h2 = some (.inl (some (.int (nI 2))), h3) := by
    have z : (some (.inl (some (.int (nI (ysz (yEb 1) - ysz yEs)))), h3) : zR) = some (.inl (some (.int (nI 2))), h3) := by rw [q3]
    exact Eq.trans e3 z
  have c3' : zCls h3 m (wE [] (nI 0) yE9 [yE8, yE7, yE6, yE5, yE4, yE3, yE2, yE1]) := c3
  obtain ⟨h4, e4, c4, f4⟩ := h_220v c3' (d_27 (sv := sv) (d := d + 44) (i := 0) c3' (show 0 < 6 by decide))
  have e4' : zcall zP sv (d + 51) 220 [.ref m, .int 0] h3 = some (.inl (some (.int (nI 5))), h4) := by
    rw [← nI_0]
    exact e4
  have c4' : zCls h4 m (wE [] (nI 0) yE10 [yE9, yE8, yE7, yE6, yE5, yE4, yE3, yE2]) := c4
  have A5 := d_31 (sv := sv) (d := d + 44) (c := nI 98) (x := -999) c4' q7 (by decide) (by decide +kernel)
  obtain ⟨h5, e5, c5, f5⟩ := h_252v c4' A5
  have e5' : zcall zP sv (d + 51) 252 [.ref m, .int (nI 98), .int (-999)] h4 = some (.inl (some (.int (nI 0))), h5) := by
    have z : (some (.inl (some (.int (yg yLe (nI 98 - nI 97)))), h5) : zR) = some (.inl (some (.int (nI 0))), h5) := by rw [q6, nI_0]
    exact Eq.trans e5 z
  rw [nI_0] at e5'
  have c5' : zCls h5 m (wE [] (nI 0) yE11 [yE10, yE9, yE8, yE7, yE6, yE5, yE4, yE3]) := c5
  obtain ⟨h6, e6, c6, f6⟩ := d_66 (sv := sv) (d := d + 3) c5'
  have e6' : zcall zP sv (d + 51) 66 [.ref m] h5 = some (.inl (some (.int (nI 8))), h6) := e6
  have r6 := zEC1 c5'
  have c6' : zCls h6 m (wE [] (nI 0) yE11 [yE10, yE9, yE8, yE7, yE6, yE5, yE4, yE3]) := c6
  refine ⟨h6, ?_, c6', zfx_mono (zfx_tr (zfx_tr (zfx_tr (zfx_tr (zfx_tr f1 f2) f3) f4) f5) f6) (Nat.le_refl _) (Nat.le_refl _) (by decide) (by decide)⟩
  simp (disch := first | exact znw_u | exact znw_i | exact znw_r) only [zs_215_0, zs_215_3, zs_215_4, zs_215_7, zs_215_7n, zs_215_8, zs_215_8n, zs_215_9, zs_215_12, zs_215_15, zs_215_18, zs_215_18n, zs_215_19, zs_215_22, zs_215_25, zs_215_28, zs_215_28n, zs_215_29, zs_215_32, zs_215_35, zs_215_35n, zs_215_36, zs_215_37, zs_215_40, zs_215_41, zs_215_44, zs_215_45, zs_215_46, zs_215_47, zs_215_49, zs_215_51, zs_215_54, zs_215_54n, zs_215_55, zs_215_57, zs_215_58, zs_215_59, zs_215_60, zs_215_63, zs_215_64, zs_215_65, zs_215_66, zs_215_69, zs_215_70, zs_215_71, zs_215_74, zs_215_77, zs_215_77n, zs_215_78, zs_215_80, zs_215_83, zs_215_86, zs_215_89, zs_215_89n, zs_215_90, zs_215_93, zs_215_96, zs_215_99, zs_215_99n, zs_215_100, zs_215_103, zs_215_106, zs_215_106n, zs_215_107, zs_215_109, zs_215_112, zs_215_113, zs_215_116, zs_215_116n, zs_215_117, zs_215_120, zs_215_123, zs_215_123n, zs_215_124, zs_215_127, zs_215_128, zs_215_131, zs_215_132, zs_215_133, zs_215_134, zs_215_136, zs_215_138, zs_215_141, zs_215_141n, zs_215_142, zs_215_145, zs_215_146, zs_215_149, zs_215_152, zs_215_155, zs_215_156, zs_215_159, zs_215_162, zs_215_165, zs_215_166, zs_215_169, zs_215_170, zs_215_171, zs_215_174, zs_215_178, zs_215_181, zs_215_184, zs_215_187, zs_215_190, zs_215_190n, zs_215_191, zs_215_192, zs_215_194, zs_215_195, zs_215_198, zs_215_199, zs_215_202, zs_215_202n, zs_215_203, zs_215_204, zs_215_207, zs_215_208, zs_215_211, zs_215_211n, zs_215_212, zs_215_213, zs_215_216, zs_215_217, zs_215_220, zs_215_220n, zs_215_221, zs_215_223, zs_215_226, zs_215_229, zs_215_232, zs_215_232n, zs_215_233, zs_215_236, zs_215_238, zs_215_241, zs_215_242, zs_215_244, zs_215_247, zs_215_249, zs_215_252, zs_215_252n, zs_215_253, zs_215_255, zs_215_258, zs_215_261, zs_215_261n, zs_215_262, zs_215_265, zs_215_267, zs_215_270, zs_215_270n, zs_215_271, zs_215_274, zs_215_276, zs_215_279, zs_215_279n, zs_215_280, zs_215_281, zs_215_284, zs_215_285, zs_215_288, zs_215_288n, zs_215_289, zs_215_292, zs_215_293, zs_215_296, zs_215_296n, zs_215_297, zs_215_298, zs_215_301, zs_215_302, zs_215_305, zs_215_305n, zs_215_306, zs_215_309, zs_215_312, zs_215_312n, zs_215_313, zs_215_316, zs_215_317, zs_215_320, zs_215_320n, zs_215_321, zs_215_322, zs_215_324, zs_215_327, zs_215_328, zs_215_331, zs_215_331n, zs_215_332, zs_215_335, zs_215_336, zs_215_339, zs_215_339n, zs_215_340, zs_215_343, zs_215_344, zs_215_347, zs_215_347n, zs_215_348, zs_215_351, zs_215_352, zs_215_355, zs_215_355n, zs_215_356, zs_215_359, zs_215_360, zs_215_363, zs_215_363n, zs_215_364, zs_215_367, zs_215_370, zs_215_370n, zs_215_371, zs_215_374, zs_215_375, zs_215_378, zs_215_378n, zs_215_379, zs_215_382, zs_215_383, zs_215_386, zs_215_386n, zs_215_387, zs_215_390, zs_215_393, zs_215_396, zs_215_397, zs_215_399, zs_215_402, zs_215_405, zs_215_405n, zs_215_406, zs_215_409, zs_215_412, zs_215_412n, zs_215_413, zs_215_416, zs_215_417, zs_215_420, zs_215_420n, zs_215_421, zs_215_424, zs_215_427, zs_215_430, zs_215_431, zs_215_435, zs_215_436, zs_215_439, zs_215_439n, zs_215_440, zs_215_440n, zs_215_441, zs_215_441n, zs_215_442, zs_215_445, zs_215_448, zs_215_449, zs_215_450, zs_215_450n, zs_215_451, zs_215_454, zs_215_454s, zs_215_455, zs_215_455n, zs_215_456, zs_215_459, zs_215_460, zs_215_461, zs_215_464, zs_215_464n, zs_215_465, zs_215_468, zs_215_471, zs_215_472, zs_215_473, zs_215_473n, zs_215_474, zs_215_477, zs_215_479, zs_215_481, zs_215_481n, zs_215_482, zs_215_485, zs_215_488, zs_215_488n, zs_215_489, zs_215_492, zs_215_493, zs_215_494, zs_215_497, zs_215_497n, zs_215_498, zs_215_501, zs_215_503, zs_215_506, zs_215_506n, zs_215_507, zs_215_510, zs_215_513, zs_215_514, zs_215_515, zs_215_517, zs_215_519, zs_215_519n, zs_215_521, zs_215_522, zs_215_524, zs_215_525, zs_215_527, zs_215_529, zs_215_531, zs_215_534, zs_215_534n, zs_215_535, zs_215_538, zs_215_538s, zs_215_540, zs_215_540n, zs_215_541, zs_215_541n, zs_215_542, zs_215_544, zs_215_546, zs_215_547, zs_215_550, zs_215_552, zs_215_555, zs_215_556, zs_215_557, zs_215_560, zs_215_563, zs_215_563n, zs_215_565, zs_215_567, zs_215_570, zs_215_572, zs_215_573, zs_215_576, zs_215_576n, zs_215_577, zs_215_580, zs_215_582, zs_215_583, zs_215_586, zs_215_587, zs_215_588, zs_215_588n, zs_215_589, zs_215_592, zs_215_594, zs_215_597, zs_215_598, zs_215_599, zs_215_602, zs_215_605, zs_215_606, zs_215_608, zs_215_610, zs_215_612, zs_215_615, zs_215_615n, zs_215_616, zs_215_619, zs_215_621, zs_215_623, zs_215_624, zs_215_627, zs_215_627n, zs_215_628, zs_215_631, zs_215_631n, zs_215_633, zs_215_635, zs_215_637, zs_215_638, zs_215_639, zs_215_640, zs_215_643, zs_215_644, zs_215_645, zs_215_648, zs_215_651, zs_215_651n, zs_215_652, zs_215_655, zs_215_658, zs_215_661, zs_215_661n, zs_215_662, zs_215_665, zs_215_667, zs_215_670, zs_215_670n, zs_215_671, zs_215_674, zs_215_675, zs_215_676, zs_215_679, zs_215_679n, zs_215_680, zs_215_683, zs_215_686, zs_215_689, zs_215_690, zs_215_693, zs_215_694, zs_215_177, k10', e1', e2', e3', e4', e5', e6', r6, zbk_v, zts_s, zts_n, ↓reduceIte, List.cons_append, List.nil_append]
theorem lw_6 (hc : zCls h m (wE [] (nI 0) yE11 [yE10, yE9, yE8, yE7, yE6, yE5, yE4, yE3])) : ∃ h', zrun zP sv (zcall zP sv (d + 51)) 215 243 [.val (.ref b), .val (.ref m), .val (.int (nI 6)), .unset, .unset, .unset, .unset, .unset, .unset, .unset, .unset] [] h = zrun zP sv (zcall zP sv (d + 51)) 215 432 [.val (.ref b), .val (.ref m), .val (.int (nI 6)), .unset, .unset, .unset, .unset, .unset, .unset, .unset, .unset] [] h' ∧ zCls h' m (wE [] (nI 0) yA0 []) ∧ zfx m (m + 119) 10 60 h h' := by
  obtain ⟨q1, q2, q3, q4, q5, q6, q7⟩ := yE_d
  obtain ⟨h1, e1, c1, f1⟩ := h_250v hc (d_67 (sv := sv) (d := d + 44) hc rfl)
  have e1' : zcall zP sv (d + 51) 250 [.ref m] h = some (.inl (some (.int (nI 7))), h1) := e1
  have c1' : zCls h1 m (wE [] (nI 0) yE10 [yE9, yE8, yE7, yE6, yE5, yE4, yE3]) := c1
  obtain ⟨h2, e2, c2, f2⟩ := h_224v c1' (d_34 (sv := sv) (d := d + 2) (c := nI 98) c1' q7)
  have e2' : zcall zP sv (d + 51) 224 [.ref m, .int (nI 98)] h1 = some (.inl (some (.int (nI 0))), h2) := by
    have z : (some (.inl (some (.int (yg yLe (nI 98 - nI 97)))), h2) : zR) = some (.inl (some (.int (nI 0))), h2) := by rw [q6, nI_0]
    exact Eq.trans e2 z
  rw [nI_0] at e2'
  have c2' : zCls h2 m (wE [] (nI 0) yE10 [yE9, yE8, yE7, yE6, yE5, yE4, yE3]) := c2
  obtain ⟨h3, e3, c3, f3⟩ := h_250v c2' (d_67 (sv := sv) (d := d + 44) c2' rfl)
  have e3' : zcall zP sv (d + 51) 250 [.ref m] h2 = some (.inl (some (.int (nI 6))), h3) := e3
  have c3' : zCls h3 m (wE [] (nI 0) yE9 [yE8, yE7, yE6, yE5, yE4, yE3]) := c3
  obtain ⟨h4, e4, c4, f4⟩ := d_33 (sv := sv) (d := d + 3) c3'
  have e4' : zcall zP sv (d + 51) 33 [.ref m] h3 = some (.inl (some (.int (nI 6))), h4) := e4
  have r4 := zEC1 c3'
  have c4' : zCls h4 m (wE [] (nI 0) yE9 [yE8, yE7, yE6, yE5, yE4, yE3]) := c4
  obtain ⟨h5, e5, c5, f5⟩ := h_226v c4' (d_36 (sv := sv) (d := d + 2) (i := 1) (t := yEs) c4' rfl)
  have e5' : zcall zP sv (d + 51) 226 [.ref m, .int (nI 1)] h4 = some (.inl (some (.int (nI 1))), h5) := by
    have z : (some (.inl (some (.int (nI (ysz yEs)))), h5) : zR) = some (.inl (some (.int (nI 1))), h5) := by rw [q4]
    exact Eq.trans e5 z
  have c5' : zCls h5 m (wE [] (nI 0) yE9 [yE8, yE7, yE6, yE5, yE4, yE3]) := c5
  obtain ⟨h6, e6, c6, f6⟩ := h_250v c5' (d_67 (sv := sv) (d := d + 44) c5' rfl)
  have e6' : zcall zP sv (d + 51) 250 [.ref m] h5 = some (.inl (some (.int (nI 5))), h6) := e6
  have c6' : zCls h6 m (wE [] (nI 0) yE8 [yE7, yE6, yE5, yE4, yE3]) := c6
  obtain ⟨h7, e7, c7, f7⟩ := h_226v c6' (d_36 (sv := sv) (d := d + 2) (i := 1) (t := yEb 1) c6' rfl)
  have e7' : zcall zP sv (d + 51) 226 [.ref m, .int (nI 1)] h6 = some (.inl (some (.int (nI 3))), h7) := e7
  have c7' : zCls h7 m (wE [] (nI 0) yE8 [yE7, yE6, yE5, yE4, yE3]) := c7
  obtain ⟨h8, e8, c8, f8⟩ := d_61 (sv := sv) (d := d + 3) c7'
  have e8' : zcall zP sv (d + 51) 61 [.ref m] h7 = some (.inl (some (.int 0)), h8) := e8
  have r8 := zEC1 c7'
  have c8' : zCls h8 m (wE [] (nI 0) yE8 [yE7, yE6, yE5, yE4, yE3]) := c8
  obtain ⟨h9, e9, c9, f9⟩ := h_250v c8' (d_67 (sv := sv) (d := d + 44) c8' rfl)
  have e9' : zcall zP sv (d + 51) 250 [.ref m] h8 = some (.inl (some (.int (nI 4))), h9) := e9
  have c9' : zCls h9 m (wE [] (nI 0) yE7 [yE6, yE5, yE4, yE3]) := c9
  obtain ⟨h10, e10, c10, f10⟩ := h_228v c9' (d_38 (sv := sv) (d := d + 2) (i := 5) (t := yEb 5) (c := nI 98) c9' rfl q7)
  have e10' : zcall zP sv (d + 51) 228 [.ref m, .int (nI 5), .int (nI 98)] h9 = some (.inl (some (.int (nI 1))), h10) := by
    have z : (some (.inl (some (.int (nI (yoc (nI 98) (ypo 0 (yEb 5)))))), h10) : zR) = some (.inl (some (.int (nI 1))), h10) := by rw [q5]
    exact Eq.trans e10 z
  have c10' : zCls h10 m (wE [] (nI 0) yE7 [yE6, yE5, yE4, yE3]) := c10
  obtain ⟨h11, e11, c11, f11⟩ := h_250v c10' (d_67 (sv := sv) (d := d + 44) c10' rfl)
  have e11' : zcall zP sv (d + 51) 250 [.ref m] h10 = some (.inl (some (.int (nI 3))), h11) := e11
  have c11' : zCls h11 m (wE [] (nI 0) yE6 [yE5, yE4, yE3]) := c11
  obtain ⟨h12, e12, c12, f12⟩ := d_33 (sv := sv) (d := d + 3) c11'
  have e12' : zcall zP sv (d + 51) 33 [.ref m] h11 = some (.inl (some (.int (nI 5))), h12) := e12
  have r12 := zEC1 c11'
  have c12' : zCls h12 m (wE [] (nI 0) yE6 [yE5, yE4, yE3]) := c12
  obtain ⟨h13, e13, c13, f13⟩ := h_250v c12' (d_67 (sv := sv) (d := d + 44) c12' rfl)
  have e13' : zcall zP sv (d + 51) 250 [.ref m] h12 = some (.inl (some (.int (nI 2))), h13) := e13
  have c13' : zCls h13 m (wE [] (nI 0) yE5 [yE4, yE3]) := c13
  obtain ⟨h14, e14, c14, f14⟩ := h_250v c13' (d_67 (sv := sv) (d := d + 44) c13' rfl)
  have e14' : zcall zP sv (d + 51) 250 [.ref m] h13 = some (.inl (some (.int (nI 1))), h14) := e14
  have c14' : zCls h14 m (wE [] (nI 0) yE4 [yE3]) := c14
  obtain ⟨h15, e15, c15, f15⟩ := h_250v c14' (d_67 (sv := sv) (d := d + 44) c14' rfl)
  have e15' : zcall zP sv (d + 51) 250 [.ref m] h14 = some (.inl (some (.int (nI 0))), h15) := e15
  rw [nI_0] at e15'
  have c15' : zCls h15 m (wE [] (nI 0) yE3 []) := c15
  obtain ⟨h16, e16, c16, f16⟩ := d_33 (sv := sv) (d := d + 3) c15'
  have e16' : zcall zP sv (d + 51) 33 [.ref m] h15 = some (.inl (some (.int (nI 2))), h16) := e16
  have r16 := zEC1 c15'
  have c16' : zCls h16 m (wE [] (nI 0) yE3 []) := c16
  obtain ⟨h17, e17, c17, f17⟩ := d_35 (sv := sv) (d := d + 3) c16'
  have e17' : zcall zP sv (d + 51) 35 [.ref m] h16 = some (.inl (some (.int (nI 4))), h17) := e17
  have r17 := zEC1 c16'
  have c17' : zCls h17 m (wE [] (nI 0) yE3 []) := c17
  obtain ⟨h18, e18, c18, f18⟩ := h_250e0 c17' (d_67n (sv := sv) (d := d + 44) c17' rfl)
  have e18' : zcall zP sv (d + 51) 250 [.ref m] h17 = some (.inl (some (.int (-1001))), h18) := e18
  have c18' : zCls h18 m (wE [] (nI 0) yE3 []) := c18
  obtain ⟨h19, e19, c19, f19⟩ := h_251v c18' (d_69 (sv := sv) (d := d + 44) c18' rfl)
  have e19' : zcall zP sv (d + 51) 251 [.ref m] h18 = some (.inl (some (.int (nI 0))), h19) := e19
  rw [nI_0] at e19'
  have c19' : zCls h19 m (wE [] (nI 0) yA0 []) := c19
  obtain ⟨h20, e20, c20, f20⟩ := d_33 (sv := sv) (d := d + 3) c19'
  have e20' : zcall zP sv (d + 51) 33 [.ref m] h19 = some (.inl (some (.int (nI 0))), h20) := e20
  rw [nI_0] at e20'
  have r20 := zEC1 c19'
  have c20' : zCls h20 m (wE [] (nI 0) yA0 []) := c20
  obtain ⟨h21, e21, c21, f21⟩ := d_35 (sv := sv) (d := d + 3) c20'
  have e21' : zcall zP sv (d + 51) 35 [.ref m] h20 = some (.inl (some (.int (nI 2))), h21) := e21
  have r21 := zEC1 c20'
  have c21' : zCls h21 m (wE [] (nI 0) yA0 []) := c21
  obtain ⟨h22, e22, c22, f22⟩ := h_250e0 c21' (d_67n (sv := sv) (d := d + 44) c21' rfl)
  have e22' : zcall zP sv (d + 51) 250 [.ref m] h21 = some (.inl (some (.int (-1001))), h22) := e22
  have c22' : zCls h22 m (wE [] (nI 0) yA0 []) := c22
  refine ⟨h22, ?_, c22', zfx_mono (zfx_tr (zfx_tr (zfx_tr (zfx_tr (zfx_tr (zfx_tr (zfx_tr (zfx_tr (zfx_tr (zfx_tr (zfx_tr (zfx_tr (zfx_tr (zfx_tr (zfx_tr (zfx_tr (zfx_tr (zfx_tr (zfx_tr (zfx_tr (zfx_tr f1 f2) f3) f4) f5) f6) f7) f8) f9) f10) f11) f12) f13) f14) f15) f16) f17) f18) f19) f20) f21) f22) (Nat.le_refl _) (Nat.le_refl _) (by decide) (by decide)⟩
  simp (maxSteps := 400000) (disch := first | exact znw_u | exact znw_i | exact znw_r) only [zs_215_0, zs_215_3, zs_215_4, zs_215_7, zs_215_7n, zs_215_8, zs_215_8n, zs_215_9, zs_215_12, zs_215_15, zs_215_18, zs_215_18n, zs_215_19, zs_215_22, zs_215_25, zs_215_28, zs_215_28n, zs_215_29, zs_215_32, zs_215_35, zs_215_35n, zs_215_36, zs_215_37, zs_215_40, zs_215_41, zs_215_44, zs_215_45, zs_215_46, zs_215_47, zs_215_49, zs_215_51, zs_215_54, zs_215_54n, zs_215_55, zs_215_57, zs_215_58, zs_215_59, zs_215_60, zs_215_63, zs_215_64, zs_215_65, zs_215_66, zs_215_69, zs_215_70, zs_215_71, zs_215_74, zs_215_77, zs_215_77n, zs_215_78, zs_215_80, zs_215_83, zs_215_86, zs_215_89, zs_215_89n, zs_215_90, zs_215_93, zs_215_96, zs_215_99, zs_215_99n, zs_215_100, zs_215_103, zs_215_106, zs_215_106n, zs_215_107, zs_215_109, zs_215_112, zs_215_113, zs_215_116, zs_215_116n, zs_215_117, zs_215_120, zs_215_123, zs_215_123n, zs_215_124, zs_215_127, zs_215_128, zs_215_131, zs_215_132, zs_215_133, zs_215_134, zs_215_136, zs_215_138, zs_215_141, zs_215_141n, zs_215_142, zs_215_145, zs_215_146, zs_215_149, zs_215_152, zs_215_155, zs_215_156, zs_215_159, zs_215_162, zs_215_165, zs_215_166, zs_215_169, zs_215_170, zs_215_171, zs_215_174, zs_215_178, zs_215_181, zs_215_184, zs_215_187, zs_215_190, zs_215_190n, zs_215_191, zs_215_192, zs_215_194, zs_215_195, zs_215_198, zs_215_199, zs_215_202, zs_215_202n, zs_215_203, zs_215_204, zs_215_207, zs_215_208, zs_215_211, zs_215_211n, zs_215_212, zs_215_213, zs_215_216, zs_215_217, zs_215_220, zs_215_220n, zs_215_221, zs_215_223, zs_215_226, zs_215_229, zs_215_232, zs_215_232n, zs_215_233, zs_215_236, zs_215_238, zs_215_241, zs_215_242, zs_215_244, zs_215_247, zs_215_249, zs_215_252, zs_215_252n, zs_215_253, zs_215_255, zs_215_258, zs_215_261, zs_215_261n, zs_215_262, zs_215_265, zs_215_267, zs_215_270, zs_215_270n, zs_215_271, zs_215_274, zs_215_276, zs_215_279, zs_215_279n, zs_215_280, zs_215_281, zs_215_284, zs_215_285, zs_215_288, zs_215_288n, zs_215_289, zs_215_292, zs_215_293, zs_215_296, zs_215_296n, zs_215_297, zs_215_298, zs_215_301, zs_215_302, zs_215_305, zs_215_305n, zs_215_306, zs_215_309, zs_215_312, zs_215_312n, zs_215_313, zs_215_316, zs_215_317, zs_215_320, zs_215_320n, zs_215_321, zs_215_322, zs_215_324, zs_215_327, zs_215_328, zs_215_331, zs_215_331n, zs_215_332, zs_215_335, zs_215_336, zs_215_339, zs_215_339n, zs_215_340, zs_215_343, zs_215_344, zs_215_347, zs_215_347n, zs_215_348, zs_215_351, zs_215_352, zs_215_355, zs_215_355n, zs_215_356, zs_215_359, zs_215_360, zs_215_363, zs_215_363n, zs_215_364, zs_215_367, zs_215_370, zs_215_370n, zs_215_371, zs_215_374, zs_215_375, zs_215_378, zs_215_378n, zs_215_379, zs_215_382, zs_215_383, zs_215_386, zs_215_386n, zs_215_387, zs_215_390, zs_215_393, zs_215_396, zs_215_397, zs_215_398, zs_215_398n, zs_215_399, zs_215_402, zs_215_405, zs_215_405n, zs_215_406, zs_215_409, zs_215_412, zs_215_412n, zs_215_413, zs_215_416, zs_215_417, zs_215_420, zs_215_420n, zs_215_421, zs_215_424, zs_215_427, zs_215_430, zs_215_431, zs_215_435, zs_215_436, zs_215_439, zs_215_439n, zs_215_440, zs_215_440n, zs_215_441, zs_215_441n, zs_215_442, zs_215_445, zs_215_448, zs_215_449, zs_215_450, zs_215_450n, zs_215_451, zs_215_454, zs_215_454s, zs_215_455, zs_215_455n, zs_215_456, zs_215_459, zs_215_460, zs_215_461, zs_215_464, zs_215_464n, zs_215_465, zs_215_468, zs_215_471, zs_215_472, zs_215_473, zs_215_473n, zs_215_474, zs_215_477, zs_215_479, zs_215_481, zs_215_481n, zs_215_482, zs_215_485, zs_215_488, zs_215_488n, zs_215_489, zs_215_492, zs_215_493, zs_215_494, zs_215_497, zs_215_497n, zs_215_498, zs_215_501, zs_215_503, zs_215_506, zs_215_506n, zs_215_507, zs_215_510, zs_215_513, zs_215_514, zs_215_515, zs_215_517, zs_215_519, zs_215_519n, zs_215_521, zs_215_522, zs_215_524, zs_215_525, zs_215_527, zs_215_529, zs_215_531, zs_215_534, zs_215_534n, zs_215_535, zs_215_538, zs_215_538s, zs_215_540, zs_215_540n, zs_215_541, zs_215_541n, zs_215_542, zs_215_544, zs_215_546, zs_215_547, zs_215_550, zs_215_552, zs_215_555, zs_215_556, zs_215_557, zs_215_560, zs_215_563, zs_215_563n, zs_215_565, zs_215_567, zs_215_570, zs_215_572, zs_215_573, zs_215_576, zs_215_576n, zs_215_577, zs_215_580, zs_215_582, zs_215_583, zs_215_586, zs_215_587, zs_215_588, zs_215_588n, zs_215_589, zs_215_592, zs_215_594, zs_215_597, zs_215_598, zs_215_599, zs_215_602, zs_215_605, zs_215_606, zs_215_608, zs_215_610, zs_215_612, zs_215_615, zs_215_615n, zs_215_616, zs_215_619, zs_215_621, zs_215_623, zs_215_624, zs_215_627, zs_215_627n, zs_215_628, zs_215_631, zs_215_631n, zs_215_633, zs_215_635, zs_215_637, zs_215_638, zs_215_639, zs_215_640, zs_215_643, zs_215_644, zs_215_645, zs_215_648, zs_215_651, zs_215_651n, zs_215_652, zs_215_655, zs_215_658, zs_215_661, zs_215_661n, zs_215_662, zs_215_665, zs_215_667, zs_215_670, zs_215_670n, zs_215_671, zs_215_674, zs_215_675, zs_215_676, zs_215_679, zs_215_679n, zs_215_680, zs_215_683, zs_215_686, zs_215_689, zs_215_690, zs_215_693, zs_215_694, zs_215_243, e1', e2', e3', e4', e5', e6', e7', e8', e9', e10', e11', e12', e13', e14', e15', e16', e17', e18', e19', e20', e21', e22', r4, r8, r12, r16, r17, r20, r21, zbk_v, zts_s, zts_n, ↓reduceIte, List.cons_append, List.nil_append]
end ZLW

section ZLO
variable {sv : Nat → Value} {d : Nat} {h : zH} {m b r m0 : Nat} {xs : List Int32} {w w' : yW} {su : Int64} {F : Int32}
theorem zTre_22 {t mt : Nat} {ns : List yN} {c : zC} (ht : zTre h t mt ns) (hk : (h.1 r).1 = 22) : zTre (zup h r c) t mt ns := zTre_cg ht (fun q q1 q2 => zup_ne (fun e => by
  subst e
  rcases zTre_kd ht q q1 q2 with z | z | z
  · rw [z] at hk; exact absurd hk (by decide)
  · rw [z] at hk; exact absurd hk (by decide)
  · rw [z] at hk; exact absurd hk (by decide)))
theorem zFs_22 {as : List Nat} {ts : List yT} {c : zC} (hf : zFs h m as ts) (hk : (h.1 r).1 = 22) : zFs (zup h r c) m as ts := ⟨hf.1, fun i a t h1 h2 => by
  obtain ⟨g1, g2, g3⟩ := hf.2 i a t h1 h2
  exact ⟨g1, g2, zTre_22 g3 hk⟩⟩
theorem zAS_22 {S : yS} {A : yA} {c : zC} (hf : zAS h m S A) (hk : (h.1 r).1 = 22) : zAS (zup h r c) m S A := ⟨hf.1, zFs_22 hf.2.1 hk, hf.2.2⟩
theorem zHs_22 {H : List yS} {HA : List yA} {c : zC} (hf : zHs h m H HA) (hk : (h.1 r).1 = 22) : zHs (zup h r c) m H HA := ⟨hf.1, fun j S A h1 h2 => zAS_22 (hf.2 j S A h1 h2) hk⟩
/-- the class's object stays where the law writes into its array -/
theorem zCls_22 {c : zC} (hc : zCls h m w) (hr : m + 119 ≤ r) (hk : (h.1 r).1 = 22) : zCls (zup h r c) m w := by
  obtain ⟨c0, c1, ⟨S, s1, s2⟩, ⟨T, t1, t2⟩, ⟨H, k1, k2⟩, ⟨pos, ns, p1⟩, c7, ⟨v, B, u, e1, e2, e3⟩⟩ := hc
  have g : ∀ lo hi, hi ≤ m + 119 → zcg lo hi h (zup h r c) := fun lo hi a q q1 q2 => zup_ne (by omega)
  have nv : v ≠ r := fun q => by
    rw [← q, e2] at hk
    exact absurd (show (24 : Nat) = 22 from hk) (by decide)
  exact ⟨c0, by rw [zup_ne (by omega), c1], ⟨S, zSta_cg s1 (g _ _ (by omega)), zAS_22 s2 hk⟩, ⟨T, zSta_cg t1 (g _ _ (by omega)), zAS_22 t2 hk⟩, ⟨H, zHis_cg k1 (g _ _ (by omega)), zHs_22 k2 hk⟩, ⟨pos, ns, zPar_cg p1 (g _ _ (by omega))⟩, zScr_cg c7 (g _ _ (by omega)) (g _ _ (by omega)), ⟨v, B, u, by rw [zup_ne (by omega), e1], by rw [zup_ne nv, e2], e3⟩⟩
theorem zaset_l {i : Nat} {y : Int64} {A : List Int64} {K : zC → zR} (hi : i < A.length) (h2 : i < 2 ^ 31) : zaset (22, A.map Value.long) 22 (nI i) (.long y) K = K (22, (A.set i y).map Value.long) := by
  rw [List.map_set]
  unfold zaset zix
  rw [nI_clamp h2]
  simp only [decide_eq_true (nI_pos h2), List.length_map, decide_eq_true hi, znar]
  rfl
/-- what holds in the law's loops: the state, what it was, and the answers of before -/
def zLi (sv : Nat → Value) (h : zH) (m b r : Nat) (xs : List Int32) (w : yW) (A0 : yA) (was : List Int64) (n : Nat) : Prop := zBs sv h m b xs ∧ zCls h m w ∧ yGd (ycur w) ∧ (∀ A, A ∈ yhis w → yGd A) ∧ ykep w = A0 ∧ w.2.2.1 = true ∧ (m + 119 ≤ r ∧ r < h.2.1) ∧ h.1 r = (22, was.map Value.long) ∧ was.length = 9 ∧ (yhis w).length = n ∧ (was.take n).reverse = (yhis w).map yask
def zl2 (l9 l10 : Slot) : Prop := (l9 = .unset ∧ l10 = .unset) ∨ ∃ y : Int64, l9 = .val (.long y) ∧ l10 = .second
theorem lo_538 {l0 l1 l2 l3 l4 l5 l6 l7 l8 l9 l10 : Slot} {x : Int64} {st : List Value} {C : zCall} (hl : zl2 l9 l10) : zrun zP sv C 215 538 [l0, l1, l2, l3, l4, l5, l6, l7, l8, l9, l10] (.long x :: st) h = zrun zP sv C 215 540 [l0, l1, l2, l3, l4, l5, l6, l7, l8, .val (.long x), .second] st h := by
  rcases hl with ⟨rfl, rfl⟩ | ⟨y, rfl, rfl⟩
  · exact zs_215_538 rfl rfl
  · exact zs_215_538s
theorem zfy_r {N K : Nat} {c : zC} {h' : zH} (f : zfy m N K h h') (hr : m + 119 ≤ r) (hl : r < h.2.1) (e : h.1 r = c) (hk : c.1 = 22) : h'.1 r = c := by
  rw [f.1 r (Or.inr ⟨hr, by rw [e, hk]; decide⟩) hl, e]
theorem lo_tk {A : List Int64} {n : Nat} {y : Int64} (hn : n < A.length) : ((A.set n y).take (n + 1)).reverse = y :: (A.take n).reverse := by
  have h1 : n < (A.set n y).length := by rw [List.length_set]; exact hn
  rw [List.take_succ_eq_append_getElem h1, List.take_set_of_le (Nat.le_refl _), List.getElem_set_self, List.reverse_append]
  rfl
theorem lo_tk2 {A : List Int64} {n : Nat} (hn : n < A.length) : (A.take (n + 1)).reverse = A[n] :: (A.take n).reverse := by
  rw [List.take_succ_eq_append_getElem hn, List.reverse_append]
  rfl
theorem yb_tt : yb true = nI 1 := rfl
theorem yb_ff : yb false = 0 := rfl
/-- the eight changes -/
theorem lo_1 {A0 : yA} (hz : sv 0 = .int (nI 1)) (h3 : zty 4 (sv 3) = true) (hx : xs.length ≤ 260) : ∀ j i n (h : zH) (w : yW) (was : List Int64) (l9 l10 : Slot), zl2 l9 l10 → i + j = 8 → n ≤ i → zLi sv h m b r xs w A0 was n → ∃ (h' : zH) (w' : yW) (was' : List Int64) (n' : Nat) (l9' l10' : Slot), n' ≤ 8 ∧ zrun zP sv (zcall zP sv (d + 51)) 215 527 [.val (.ref b), .val (.ref m0), .val (.ref m), .val (.long su), .second, .val (.int F), .val (.ref r), .val (.int (nI n)), .val (.int (nI i)), l9, l10] [] h = zrun zP sv (zcall zP sv (d + 51)) 215 605 [.val (.ref b), .val (.ref m0), .val (.ref m), .val (.long su), .second, .val (.int F), .val (.ref r), .val (.int (nI n')), .val (.int (nI 8)), l9', l10'] [] h' ∧ zLi sv h' m b r xs w' A0 was' n' ∧ h.2.1 ≤ h'.2.1 ∧ h'.2.1 ≤ h.2.1 + 54300 * j ∧ h'.2.2 ≤ h.2.2 + 110300 * j := by
  intro j
  induction j with
  | zero =>
    intro i n h w was l9 l10 hl hi hn hL
    obtain rfl : i = 8 := by omega
    have c : ¬ nI 8 < nI 8 := nI_nlt (Nat.le_refl _) (by decide)
    refine ⟨h, w, was, n, l9, l10, hn, ?_, hL, Nat.le_refl _, by omega, by omega⟩
    simp (disch := first | exact znw_u | exact znw_i | exact znw_r) only [zs_215_527, zs_215_529, zs_215_531, if_neg c]
  | succ j ih =>
    intro i n h w was l9 l10 hl hi hn hL
    obtain ⟨hB, hc, hg, hH, hK, ht, ⟨hr1, hr2⟩, hr, hw9, hln, htk⟩ := hL
    have c : nI i < nI 8 := nI_lt (by omega) (by decide)
    have hm := zCls_m hc
    obtain ⟨h1, o1, e1, c1, f1, _⟩ := l_257 (sv := sv) (d := d + 1) hz h3 hB hc hg.1
    have B1 := zBs_f hB hm f1
    have m1 := f1.2.1
    have e216 : zcall zP sv (d + 51) 216 [.ref b, .int (nI (20 + i))] h1 = _ := l_216 (d := d + 50) B1.1.2 hx (by omega)
    obtain ⟨h2, w2, cc, e2, c2, f2, hz2⟩ := l_258 (d := d + 1) (x := xs.getD (20 + i) 0 ^^^ nI i * nI 977) hz h3 B1 c1 (show yGd (ycur w) from hg)
    have B2 := zBs_f B1 (zCls_m c1) f2
    have m2 := f2.2.1
    have hr' := zfy_r (zfy_tr f1 f2) hr1 hr2 hr rfl
    rcases hz2 with ⟨rfl, k1, k2, k3, k4⟩ | ⟨rfl, k1, k2, k3, k4⟩
    · have hk : (h2.1 r).1 = 22 := by rw [hr']
      obtain ⟨h2', hh2⟩ : ∃ h2', h2' = zup h2 r (22, (was.set n (yask (ycur w))).map Value.long) := ⟨_, rfl⟩
      have c3 : zCls h2' m w2 := by rw [hh2]; exact zCls_22 c2 hr1 hk
      have B3 : zBs sv h2' m b xs := zBs_q B2 (fun q hq => by rw [hh2, zup_ne (by omega)]) (Nat.le_refl _)
      have s3 : h2'.2 = h2.2 := by rw [hh2]; rfl
      have hw2 : yhis w2 = ycur w :: yhis w := by
        rw [k2]
        exact List.take_of_length_le (by show (yhis w).length + 1 ≤ 8; omega)
      obtain ⟨h4, e4, c4, f4⟩ := d_66 (sv := sv) (d := d + 3) c3
      rw [hw2] at e4
      have e4' : zcall zP sv (d + 51) 66 [.ref m] h2' = some (.inl (some (.int (nI (n + 1)))), h4) := by rw [← hln]; exact e4
      have m4 := f4.2.1
      have s4 : h4.2.1 ≤ h2.2.1 := by have := f4.2.2.1; rw [s3] at this; omega
      have t4 : h4.2.2 ≤ h2.2.2 := by have := f4.2.2.2; rw [s3] at this; omega
      rw [s3] at m4
      have L4 : zLi sv h4 m b r xs w2 A0 (was.set n (yask (ycur w))) (n + 1) := ⟨zBs_f B3 (zCls_m c3) (zfy_fx f4), c4, k1, fun A hA => by
        rw [hw2] at hA
        rcases List.mem_cons.mp hA with q | q
        · rw [q]; exact hg
        · exact hH A q, k3.trans hK, k4.trans ht, ⟨hr1, by omega⟩, by
        rw [f4.1 r (by rw [s3]; omega) (Or.inr hr1), hh2, zup_at], by rw [List.length_set]; exact hw9, by rw [hw2]; show (yhis w).length + 1 = n + 1; rw [hln], by
        rw [lo_tk (by omega), htk, hw2]
        rfl⟩
      obtain ⟨h5, w5, was5, n5, l5, l5', z1, z2, z3, z4, z5, z6⟩ := ih (i + 1) (n + 1) h4 w2 _ (.val (.long (yask (ycur w)))) .second (Or.inr ⟨_, rfl, rfl⟩) (by omega) (by omega) L4
      have F1 := f1.2.2
      have F2 := f2.2.2
      refine ⟨h5, w5, was5, n5, l5, l5', z1, ?_, z3, by omega, by omega, by omega⟩
      rw [← z2, zs_215_527, zs_215_529, zs_215_531, if_pos c]
      have zl : ∀ K : zC → zR, zaset (22, was.map Value.long) 22 (nI n) (.long (yask (ycur w))) K = K (22, (was.set n (yask (ycur w))).map Value.long) := fun K => zaset_l (by omega) (by omega)
      have r3 := zEC1 c3
      simp (disch := first | exact znw_u | exact znw_i | exact znw_r) only [zs_215_534, zs_215_535, e1, lo_538 hl, zs_215_540, zs_215_541, zs_215_542, zs_215_544, zs_215_546, zs_215_547, zs_215_550, zs_215_552, zs_215_555, zs_215_556, zs_215_557, zs_215_560, zs_215_563, zs_215_565, zs_215_567, zs_215_570, zs_215_572, zs_215_573, zs_215_588, zs_215_589, zs_215_592, zs_215_594, zs_215_599, zs_215_602, nI_add, e216, e2, yb_tt, nI_1e0, hr', zl, ← hh2, r3, e4', zbk_v, zts_s, zts_n, ↓reduceIte, List.cons_append, List.nil_append]
    · obtain ⟨h3', o3, e3, c3, f3, _⟩ := l_257 (sv := sv) (d := d + 1) hz h3 B2 c2 (show yRg (ycur w2) by rw [k1]; exact hg.1)
      rw [k1] at e3
      have e3' : zcall zP sv (d + 51) 257 [.ref m] h2 = some (.inl (some (.long (yask (ycur w)))), h3') := e3
      have B3 := zBs_f B2 (zCls_m c2) f3
      have m3 := f3.2.1
      obtain ⟨h4, e4, c4, f4⟩ := d_66 (sv := sv) (d := d + 3) c3
      have e4' : zcall zP sv (d + 51) 66 [.ref m] h3' = some (.inl (some (.int (nI n))), h4) := by
        rw [← hln]
        have q : yhis (yso w2 o3) = yhis w := k2
        rw [q] at e4
        exact e4
      have m4 := f4.2.1
      have hr4 := zfy_r (zfy_tr (zfy_tr (zfy_tr f1 f2) f3) (zfy_fx f4)) hr1 hr2 hr rfl
      have L4 : zLi sv h4 m b r xs (yso w2 o3) A0 was n := ⟨zBs_f B3 (zCls_m c3) (zfy_fx f4), c4, show yGd (ycur w2) by rw [k1]; exact hg, fun A hA => hH A (by
        have q : yhis (yso w2 o3) = yhis w := k2
        rw [q] at hA
        exact hA), k3.trans hK, k4.trans ht, ⟨hr1, by omega⟩, hr4, hw9, (congrArg List.length (show yhis (yso w2 o3) = yhis w from k2)).trans hln, htk.trans (congrArg (List.map yask) (show yhis w = yhis (yso w2 o3) from k2.symm))⟩
      obtain ⟨h5, w5, was5, n5, l5, l5', z1, z2, z3, z4, z5, z6⟩ := ih (i + 1) n h4 _ _ (.val (.long (yask (ycur w)))) .second (Or.inr ⟨_, rfl, rfl⟩) (by omega) (by omega) L4
      have F1 := f1.2.2
      have F2 := f2.2.2
      have F3 := f3.2.2
      have F4 := f4.2.2
      refine ⟨h5, w5, was5, n5, l5, l5', z1, ?_, z3, by omega, by omega, by omega⟩
      rw [← z2, zs_215_527, zs_215_529, zs_215_531, if_pos c]
      have r3 := zEC1 c3
      simp (disch := first | exact znw_u | exact znw_i | exact znw_r) only [zs_215_534, zs_215_535, e1, lo_538 hl, zs_215_540, zs_215_541, zs_215_542, zs_215_544, zs_215_546, zs_215_547, zs_215_550, zs_215_552, zs_215_555, zs_215_556, zs_215_557, zs_215_560, zs_215_576, zs_215_577, zs_215_580, zs_215_582, zs_215_583, zs_215_588, zs_215_589, zs_215_592, zs_215_594, zs_215_599, zs_215_602, nI_add, e216, e2, yb_ff, e3', lg_cmp_s, r3, e4', zbk_v, zts_s, zts_n, ↓reduceIte, List.cons_append, List.nil_append]
/-- the undos -/
theorem lo_2 {A0 : yA} {was : List Int64} {N : Nat} {l9 l10 : Slot} (hz : sv 0 = .int (nI 1)) (h3 : zty 4 (sv 3) = true) (hN : N ≤ 8) : ∀ n k (h : zH) (w : yW), n + k = N + 1 → zLi sv h m b r xs w A0 was n → ∃ (h' : zH) (w' : yW), zrun zP sv (zcall zP sv (d + 51)) 215 608 [.val (.ref b), .val (.ref m0), .val (.ref m), .val (.long su), .second, .val (.int F), .val (.ref r), .val (.int (nI N)), .val (.int (nI k)), l9, l10] [] h = zrun zP sv (zcall zP sv (d + 51)) 215 651 [.val (.ref b), .val (.ref m0), .val (.ref m), .val (.long su), .second, .val (.int F), .val (.ref r), .val (.int (nI N)), .val (.int (nI (N + 1))), l9, l10] [] h' ∧ zLi sv h' m b r xs w' A0 was 0 ∧ h.2.1 ≤ h'.2.1 ∧ h'.2.1 ≤ h.2.1 + 12100 * n ∧ h'.2.2 ≤ h.2.2 + 24100 * n := by
  intro n
  induction n with
  | zero =>
    intro k h w hk hL
    obtain rfl : k = N + 1 := by omega
    have c : nI N < nI (N + 1) := nI_lt (by omega) (by omega)
    refine ⟨h, w, ?_, hL, Nat.le_refl _, by omega, by omega⟩
    simp (disch := first | exact znw_u | exact znw_i | exact znw_r) only [zs_215_608, zs_215_610, zs_215_612, if_pos c]
  | succ n ih =>
    intro k h w hk hL
    obtain ⟨hB, hc, hg, hH, hK, ht, ⟨hr1, hr2⟩, hr, hw9, hln, htk⟩ := hL
    have c : ¬ nI N < nI k := nI_nlt (by omega) (by omega)
    obtain ⟨A, HA, hAH⟩ : ∃ A HA, yhis w = A :: HA := by
      rcases hq : yhis w with _ | ⟨A, HA⟩
      · rw [hq] at hln
        exact absurd (show 0 = n + 1 from hln) (by omega)
      · exact ⟨A, HA, rfl⟩
    rw [hAH] at hln htk hH
    have hlA : HA.length = n := by
      have : HA.length + 1 = n + 1 := hln
      omega
    obtain ⟨h1, e1, c1, f1⟩ := h_250v hc (d_67 (sv := sv) (d := d + 44) hc hAH)
    rw [hlA] at e1
    have e1' : zcall zP sv (d + 51) 250 [.ref m] h = some (.inl (some (.int (nI n))), h1) := e1
    have c1' : zCls h1 m (ysh (ysc w A) HA) := c1
    have B1 := zBs_f hB (zCls_m hc) (zfy_fx f1)
    have m1 := f1.2.1
    have gA := hH A List.mem_cons_self
    obtain ⟨h2, o2, e2, c2, f2, _⟩ := l_257 (sv := sv) (d := d + 1) hz h3 B1 c1' (show yRg A from gA.1)
    have e2' : zcall zP sv (d + 51) 257 [.ref m] h1 = some (.inl (some (.long (yask A))), h2) := e2
    have m2 := f2.2.1
    have B2 := zBs_f B1 (zCls_m c1') f2
    have hr2' := zfy_r (zfy_tr (zfy_fx f1) f2) hr1 hr2 hr rfl
    have hr1' := zfy_r (zfy_fx f1) hr1 hr2 hr rfl
    rw [lo_tk2 (by omega)] at htk
    have q1 : was[n]'(by omega) = yask A := (List.cons.inj htk).1
    have q2 : (was.take n).reverse = HA.map yask := (List.cons.inj htk).2
    have L2 : zLi sv h2 m b r xs (yso (ysh (ysc w A) HA) o2) A0 was n := ⟨B2, c2, gA, fun X hX => hH X (List.mem_cons_of_mem _ hX), hK, ht, ⟨hr1, by omega⟩, hr2', hw9, hlA, q2⟩
    obtain ⟨h3', w3, z1, z2, z3, z4, z5⟩ := ih (k + 1) h2 _ (by omega) L2
    have F1 := f1.2.2
    have F2 := f2.2.2
    refine ⟨h3', w3, ?_, z2, by omega, by omega, by omega⟩
    have es : nI N - nI k = nI n := by
      rw [nI_subn (by omega)]
      congr 1
      omega
    have el : ∀ K : Value → zR, zael (22, was.map Value.long) 22 (nI n) K = K (.long (yask A)) := fun K => zael_k (by rw [List.getElem?_map, List.getElem?_eq_getElem (by omega), q1]; rfl) (by omega)
    rw [← z1, zs_215_608, zs_215_610, zs_215_612, if_neg c]
    simp (disch := first | exact znw_u | exact znw_i | exact znw_r) only [zs_215_615, zs_215_616, zs_215_619, zs_215_621, zs_215_623, zs_215_624, zs_215_627, zs_215_628, zs_215_631, zs_215_633, zs_215_635, zs_215_637, zs_215_638, zs_215_639, zs_215_640, zs_215_645, zs_215_648, e1', es, e2', hr2', el, lg_cmp_s, nI_p1, zbk_v, zts_s, zts_n, ↓reduceIte, List.cons_append, List.nil_append]
/-- the end -/
theorem lo_3 {A0 : yA} {was : List Int64} {l7 l8 l9 l10 : Slot} (hz : sv 0 = .int (nI 1)) (h3 : zty 4 (sv 3) = true) (hF : F = nI A0.1.length) (hs : su = yask A0) (hg0 : yGd A0) (hL : zLi sv h m b r xs w A0 was 0) : ∃ h', zrun zP sv (zcall zP sv (d + 51)) 215 651 [.val (.ref b), .val (.ref m0), .val (.ref m), .val (.long su), .second, .val (.int F), .val (.ref r), l7, l8, l9, l10] [] h = some (.inl (some (.int (nI 1))), h') ∧ h.2.1 ≤ h'.2.1 ∧ h'.2.1 ≤ h.2.1 + 12200 ∧ h'.2.2 ≤ h.2.2 + 24200 := by
  obtain ⟨hB, hc, hg, hH, hK, ht, ⟨hr1, hr2⟩, hr, hw9, hln, htk⟩ := hL
  have hn : yhis w = [] := List.length_eq_zero_iff.mp hln
  obtain ⟨h1, e1, c1, f1⟩ := h_250e0 hc (d_67n (sv := sv) (d := d + 44) hc hn)
  obtain ⟨h2, e2, c2, f2⟩ := h_251v c1 (d_69 (sv := sv) (d := d + 44) c1 ht)
  rw [hK] at e2 c2
  have e2' : zcall zP sv (d + 51) 251 [.ref m] h1 = some (.inl (some (.int F)), h2) := by rw [hF]; exact e2
  have F12 := zfx_tr f1 f2
  have B2 := zBs_f hB (zCls_m hc) (zfy_fx F12)
  obtain ⟨h3', o3, e3, c3, f3, _⟩ := l_257 (sv := sv) (d := d + 1) hz h3 B2 c2 (show yRg A0 from hg0.1)
  have e3' : zcall zP sv (d + 51) 257 [.ref m] h2 = some (.inl (some (.long su)), h3') := by rw [hs]; exact e3
  obtain ⟨h4, e4, c4, f4⟩ := h_250e0 c3 (d_67n (sv := sv) (d := d + 44) c3 rfl)
  have g1 := F12.2
  have g2 := f3.2
  have g3 := f4.2
  refine ⟨h4, ?_, by omega, by omega, by omega⟩
  simp (disch := first | exact znw_u | exact znw_i | exact znw_r) only [zs_215_651, zs_215_652, zs_215_655, zs_215_658, zs_215_661, zs_215_662, zs_215_665, zs_215_667, zs_215_670, zs_215_671, zs_215_674, zs_215_675, zs_215_676, zs_215_679, zs_215_680, zs_215_683, zs_215_686, zs_215_689, zs_215_690, zs_215_694, e1, e2', e3', lg_cmp_s, e4, zty_51, zgd_t, zbk_v, zts_s, zts_n, ↓reduceIte, List.cons_append, List.nil_append]
/-- the second object -/
theorem lo_4 {x2 : Slot} (hz : sv 0 = .int (nI 1)) (h3 : zty 4 (sv 3) = true) (hx : xs.length ≤ 260) (hB : zBs sv h m0 b xs) (hm0 : m0 ≤ h.2.1) (w2 : znw x2 = true) : ∃ h', zrun zP sv (zcall zP sv (d + 51)) 215 432 [.val (.ref b), .val (.ref m0), x2, .unset, .unset, .unset, .unset, .unset, .unset, .unset, .unset] [] h = some (.inl (some (.int (nI 1))), h') ∧ h.2.1 ≤ h'.2.1 ∧ h'.2.1 ≤ h.2.1 + 800000 ∧ h'.2.2 ≤ h.2.2 + 2000000 := by
  have eN : zcall zP sv (d + 51) 23 [.ref h.2.1] (znew h (1, [.null, .int 0, .null, .null, .int 0, .null, .null, .null, .null, .null, .null, .null, .null]) 13) = some (.inl none, zext h (zC1 h.2.1) 3070) := by
    rw [zext_of]
    exact c_new (d := d + 46) hz
  have rn : ∀ X : zR, zrc ((znew h (1, [.null, .int 0, .null, .null, .int 0, .null, .null, .null, .null, .null, .null, .null, .null]) 13).1 h.2.1) 1 X = X := fun X => by rw [znew_at]; exact zrc_k
  have B0 : zBs sv (zext h (zC1 h.2.1) 3070) h.2.1 b xs := zBs_q hB (fun q hq => zext_lo (by omega)) hm0
  have c0 : zCls (zext h (zC1 h.2.1) 3070) h.2.1 yw0 := zfr_cls
  have s0 : (zext h (zC1 h.2.1) 3070).2.1 = h.2.1 + 119 := rfl
  have t0 : (zext h (zC1 h.2.1) 3070).2.2 = h.2.2 + 3070 := rfl
  generalize zext h (zC1 h.2.1) 3070 = h0 at *
  obtain ⟨m, hm⟩ : ∃ m, m = h.2.1 := ⟨_, rfl⟩
  rw [← hm] at B0 c0 s0 eN rn
  obtain ⟨h1, w1, e1, B1, c1, f1, hg, n2, n4⟩ := l_256 (d := d + 1) hz h3 hx B0 c0 rfl
  obtain ⟨h2, o2, e2, c2, f2, _⟩ := l_257 (sv := sv) (d := d + 1) hz h3 B1 c1 hg.1
  have B2 := zBs_f B1 (zCls_m c1) f2
  obtain ⟨h3', o3, e3, c3, f3, _⟩ := l_257 (sv := sv) (d := d + 1) hz h3 B2 c2 (show yRg (ycur w1) from hg.1)
  have e3' : zcall zP sv (d + 51) 257 [.ref m] h2 = some (.inl (some (.long (yask (ycur w1)))), h3') := e3
  have B3 := zBs_f B2 (zCls_m c2) f3
  obtain ⟨h4, w4, e4, c4, ⟨k1, k2, k3, k4⟩, f4⟩ := l_259 (sv := sv) (d := d) hz h3 B3 c3 (show yGd (ycur w1) from hg) (show 1 ≤ (ycur w1).1.length by omega) (show (ycur w1).1.length ≤ 4 from n4)
  have k1' : ycur w4 = ycur w1 := k1
  have B4 := zBs_f B3 (zCls_m c3) f4
  obtain ⟨h5, e5, c5, f5⟩ := d_68 (sv := sv) (d := d + 45) c4
  rw [k1'] at e5 c5
  have e5' : zcall zP sv (d + 51) 68 [.ref m] h4 = some (.inl (some (.int (nI (ycur w1).1.length))), h5) := e5
  obtain ⟨w5, hw5⟩ : ∃ w5, w5 = ysi (ysk w4 (ycur w1)) true := ⟨_, rfl⟩
  have p1 : ycur w5 = ycur w1 := by rw [hw5]; exact k1'
  have p2 : ykep w5 = ycur w1 := by rw [hw5]; rfl
  have p3 : w5.2.2.1 = true := by rw [hw5]; rfl
  rw [← hw5] at c5
  have B5 := zBs_f B4 (zCls_m c4) (zfy_fx f5)
  obtain ⟨h6, e6, c6, f6⟩ := d_33 (sv := sv) (d := d + 3) c5
  rw [p1] at e6
  have e6' : zcall zP sv (d + 51) 33 [.ref m] h5 = some (.inl (some (.int (nI (ycur w1).1.length))), h6) := e6
  have B6 := zBs_f B5 (zCls_m c5) (zfy_fx f6)
  obtain ⟨h7, o7, e7, c7, f7, _⟩ := l_257 (sv := sv) (d := d + 1) hz h3 B6 c6 (by rw [p1]; exact hg.1)
  rw [p1] at e7
  have e7' : zcall zP sv (d + 51) 257 [.ref m] h6 = some (.inl (some (.long (yask (ycur w1)))), h7) := e7
  have B7 := zBs_f B6 (zCls_m c6) f7
  obtain ⟨h8, e8, c8, f8⟩ := h_251v c7 (d_69 (sv := sv) (d := d + 44) c7 (show (yso w5 o7).2.2.1 = true from p3))
  have p2' : ykep (yso w5 o7) = ycur w1 := p2
  rw [p2'] at e8 c8
  have e8' : zcall zP sv (d + 51) 251 [.ref m] h7 = some (.inl (some (.int (nI (ycur w1).1.length))), h8) := e8
  have B8 := zBs_f B7 (zCls_m c7) (zfy_fx f8)
  obtain ⟨h9, e9, c9, f9⟩ := d_66 (sv := sv) (d := d + 3) c8
  have e9' : zcall zP sv (d + 51) 66 [.ref m] h8 = some (.inl (some (.int (nI 0))), h9) := e9
  rw [nI_0] at e9'
  have B9 := zBs_f B8 (zCls_m c8) (zfy_fx f9)
  obtain ⟨ha, hha⟩ : ∃ ha, ha = znew h9 (22, List.replicate 9 (.long 0)) 9 := ⟨_, rfl⟩
  have ea : ha = zext h9 [(22, List.replicate 9 (.long 0))] 9 := by rw [hha, zext_of]
  have ga : ha.1 h9.2.1 = (22, (List.replicate 9 (0 : Int64)).map Value.long) := by rw [ea, zext_0, List.map_replicate]
  have la : ∀ q, q < h9.2.1 → ha.1 q = h9.1 q := fun q hq => by rw [ea, zext_lo hq]
  have za : ha.2.1 = h9.2.1 + 1 ∧ ha.2.2 = h9.2.2 + 9 := by rw [ea]; exact ⟨rfl, rfl⟩
  have ca := zCls_new c9 la (by omega)
  have Ba : zBs sv ha m b xs := zBs_q B9 (fun q hq => la q (by have := zCls_m c9; omega)) (Nat.le_refl _)
  have La : zLi sv ha m b h9.2.1 xs (ysh (ysc (yso w5 o7) (ycur w1)) []) (ycur w1) (List.replicate 9 0) 0 := ⟨Ba, ca, hg, fun A hA => absurd hA List.not_mem_nil, p2, p3, ⟨by have := c9.1; omega, by omega⟩, ga, List.length_replicate, rfl, rfl⟩
  obtain ⟨hb, wb, was, n, l9, l10, z1, z2, z3, z4, z5, z6⟩ := lo_1 (d := d) (m0 := m0) (su := yask (ycur w1)) (F := nI (ycur w1).1.length) hz h3 hx 8 0 0 ha _ _ .unset .unset (Or.inl ⟨rfl, rfl⟩) rfl (Nat.le_refl _) La
  rw [nI_0] at z2
  obtain ⟨hc', wc, y1, y2, y3, y4, y5⟩ := lo_2 (d := d) (m0 := m0) (su := yask (ycur w1)) (F := nI (ycur w1).1.length) (N := n) (l9 := l9) (l10 := l10) hz h3 z1 n 1 hb wb rfl z3
  obtain ⟨hd, v1, v2, v3, v4⟩ := lo_3 (d := d) (m0 := m0) (l7 := .val (.int (nI n))) (l8 := .val (.int (nI (n + 1)))) (l9 := l9) (l10 := l10) hz h3 rfl rfl hg y2
  have g1 := f1.2
  have g2 := f2.2
  have g3 := f3.2
  have g4 := f4.2
  have g5 := f5.2
  have g6 := f6.2
  have g7 := f7.2
  have g8 := f8.2
  have g9 := f9.2
  refine ⟨hd, ?_, by omega, by omega, by omega⟩
  rw [← v1, ← y1]
  have q605 : zrun zP sv (zcall zP sv (d + 51)) 215 605 [.val (.ref b), .val (.ref m0), .val (.ref m), .val (.long (yask (ycur w1))), .second, .val (.int (nI (ycur w1).1.length)), .val (.ref h9.2.1), .val (.int (nI n)), .val (.int (nI 8)), l9, l10] [] hb = zrun zP sv (zcall zP sv (d + 51)) 215 608 [.val (.ref b), .val (.ref m0), .val (.ref m), .val (.long (yask (ycur w1))), .second, .val (.int (nI (ycur w1).1.length)), .val (.ref h9.2.1), .val (.int (nI n)), .val (.int (nI 1)), l9, l10] [] hb := by
    simp (disch := first | exact znw_u | exact znw_i | exact znw_r) only [zs_215_605, zs_215_606]
  rw [← q605, ← z2]
  have r4 := zEC1 c4
  have r5 := zEC1 c5
  have r8 := zEC1 c8
  simp (disch := first | exact znw_u | exact znw_i | exact znw_r | assumption) only [zs_215_0, zs_215_3, zs_215_4, zs_215_7, zs_215_7n, zs_215_8, zs_215_8n, zs_215_9, zs_215_12, zs_215_15, zs_215_18, zs_215_18n, zs_215_19, zs_215_22, zs_215_25, zs_215_28, zs_215_28n, zs_215_29, zs_215_32, zs_215_35, zs_215_35n, zs_215_36, zs_215_37, zs_215_40, zs_215_41, zs_215_44, zs_215_45, zs_215_46, zs_215_47, zs_215_48, zs_215_49, zs_215_51, zs_215_54, zs_215_54n, zs_215_55, zs_215_57, zs_215_58, zs_215_59, zs_215_60, zs_215_63, zs_215_64, zs_215_65, zs_215_66, zs_215_69, zs_215_70, zs_215_71, zs_215_74, zs_215_77, zs_215_77n, zs_215_78, zs_215_80, zs_215_83, zs_215_86, zs_215_89, zs_215_89n, zs_215_90, zs_215_93, zs_215_96, zs_215_99, zs_215_99n, zs_215_100, zs_215_103, zs_215_106, zs_215_106n, zs_215_107, zs_215_109, zs_215_112, zs_215_113, zs_215_116, zs_215_116n, zs_215_117, zs_215_120, zs_215_123, zs_215_123n, zs_215_124, zs_215_127, zs_215_128, zs_215_131, zs_215_132, zs_215_133, zs_215_134, zs_215_135, zs_215_136, zs_215_138, zs_215_141, zs_215_141n, zs_215_142, zs_215_145, zs_215_146, zs_215_149, zs_215_152, zs_215_155, zs_215_156, zs_215_159, zs_215_162, zs_215_165, zs_215_166, zs_215_169, zs_215_170, zs_215_171, zs_215_174, zs_215_177, zs_215_177n, zs_215_178, zs_215_181, zs_215_184, zs_215_187, zs_215_190, zs_215_190n, zs_215_191, zs_215_192, zs_215_194, zs_215_195, zs_215_198, zs_215_199, zs_215_202, zs_215_202n, zs_215_203, zs_215_204, zs_215_207, zs_215_208, zs_215_211, zs_215_211n, zs_215_212, zs_215_213, zs_215_216, zs_215_217, zs_215_220, zs_215_220n, zs_215_221, zs_215_223, zs_215_226, zs_215_229, zs_215_232, zs_215_232n, zs_215_233, zs_215_236, zs_215_238, zs_215_241, zs_215_242, zs_215_243, zs_215_243n, zs_215_244, zs_215_247, zs_215_249, zs_215_252, zs_215_252n, zs_215_253, zs_215_255, zs_215_258, zs_215_261, zs_215_261n, zs_215_262, zs_215_265, zs_215_267, zs_215_270, zs_215_270n, zs_215_271, zs_215_274, zs_215_276, zs_215_279, zs_215_279n, zs_215_280, zs_215_281, zs_215_284, zs_215_285, zs_215_288, zs_215_288n, zs_215_289, zs_215_292, zs_215_293, zs_215_296, zs_215_296n, zs_215_297, zs_215_298, zs_215_301, zs_215_302, zs_215_305, zs_215_305n, zs_215_306, zs_215_309, zs_215_312, zs_215_312n, zs_215_313, zs_215_316, zs_215_317, zs_215_320, zs_215_320n, zs_215_321, zs_215_322, zs_215_324, zs_215_327, zs_215_328, zs_215_331, zs_215_331n, zs_215_332, zs_215_335, zs_215_336, zs_215_339, zs_215_339n, zs_215_340, zs_215_343, zs_215_344, zs_215_347, zs_215_347n, zs_215_348, zs_215_351, zs_215_352, zs_215_355, zs_215_355n, zs_215_356, zs_215_359, zs_215_360, zs_215_363, zs_215_363n, zs_215_364, zs_215_367, zs_215_370, zs_215_370n, zs_215_371, zs_215_374, zs_215_375, zs_215_378, zs_215_378n, zs_215_379, zs_215_382, zs_215_383, zs_215_386, zs_215_386n, zs_215_387, zs_215_390, zs_215_393, zs_215_396, zs_215_397, zs_215_398, zs_215_398n, zs_215_399, zs_215_402, zs_215_405, zs_215_405n, zs_215_406, zs_215_409, zs_215_412, zs_215_412n, zs_215_413, zs_215_416, zs_215_417, zs_215_420, zs_215_420n, zs_215_421, zs_215_424, zs_215_427, zs_215_430, zs_215_431, zs_215_435, zs_215_436, zs_215_439, zs_215_439n, zs_215_440, zs_215_440n, zs_215_441, zs_215_441n, zs_215_442, zs_215_445, zs_215_448, zs_215_449, zs_215_450, zs_215_450n, zs_215_451, zs_215_454, zs_215_454s, zs_215_455, zs_215_455n, zs_215_456, zs_215_459, zs_215_460, zs_215_461, zs_215_464, zs_215_464n, zs_215_465, zs_215_468, zs_215_471, zs_215_472, zs_215_473, zs_215_473n, zs_215_474, zs_215_477, zs_215_479, zs_215_481, zs_215_481n, zs_215_482, zs_215_485, zs_215_488, zs_215_488n, zs_215_489, zs_215_492, zs_215_493, zs_215_494, zs_215_497, zs_215_497n, zs_215_498, zs_215_501, zs_215_503, zs_215_506, zs_215_506n, zs_215_507, zs_215_510, zs_215_513, zs_215_514, zs_215_515, zs_215_517, zs_215_519, zs_215_519n, zs_215_521, zs_215_522, zs_215_524, zs_215_525, zs_215_529, zs_215_531, zs_215_534, zs_215_534n, zs_215_535, zs_215_538, zs_215_538s, zs_215_540, zs_215_540n, zs_215_541, zs_215_541n, zs_215_542, zs_215_544, zs_215_546, zs_215_547, zs_215_550, zs_215_552, zs_215_555, zs_215_556, zs_215_557, zs_215_560, zs_215_563, zs_215_563n, zs_215_565, zs_215_567, zs_215_570, zs_215_572, zs_215_573, zs_215_576, zs_215_576n, zs_215_577, zs_215_580, zs_215_582, zs_215_583, zs_215_586, zs_215_587, zs_215_588, zs_215_588n, zs_215_589, zs_215_592, zs_215_594, zs_215_597, zs_215_598, zs_215_599, zs_215_602, zs_215_605, zs_215_606, zs_215_608, zs_215_610, zs_215_612, zs_215_615, zs_215_615n, zs_215_616, zs_215_619, zs_215_621, zs_215_623, zs_215_624, zs_215_627, zs_215_627n, zs_215_628, zs_215_631, zs_215_631n, zs_215_633, zs_215_635, zs_215_637, zs_215_638, zs_215_639, zs_215_640, zs_215_643, zs_215_644, zs_215_645, zs_215_648, zs_215_651, zs_215_651n, zs_215_652, zs_215_655, zs_215_658, zs_215_661, zs_215_661n, zs_215_662, zs_215_665, zs_215_667, zs_215_670, zs_215_670n, zs_215_671, zs_215_674, zs_215_675, zs_215_676, zs_215_679, zs_215_679n, zs_215_680, zs_215_683, zs_215_686, zs_215_689, zs_215_690, zs_215_693, zs_215_694, zs_215_432, rn, eN, e1, e2, e3', e4, e5', r4, e6', r5, e7', e8', e9', r8, nI_1e0, lg_cmp_s, znwa_k (show 9 ≤ 65536 by decide), ← hm, ← hha, zbk_v, zts_s, zts_n, ↓reduceIte, List.cons_append, List.nil_append]
theorem z_main : zOK3 := fun sv h0 b xs hS h00 hx => by
  have hz : sv 0 = .int (nI 1) := hS.1.trans (congrArg Value.int (by decide +kernel))
  have h3 := hS.2.1
  obtain ⟨h1, e1, c1, B1, s1, t1⟩ := lw_1 (d := 0) hz hS
  obtain ⟨h2, cs, e2, c2, l2, y2, f2⟩ := lw_f (d := 0) (b := b) 60 0 [] h1 rfl c1 rfl (Or.inl rfl)
  rw [nI_0] at e2
  have B2 := zBs_f B1 (zCls_m c1) (zfy_fx f2)
  obtain ⟨h3', e3, c3, f3⟩ := lw_2 (d := 0) (b := b) c2 l2 y2
  have B3 := zBs_f B2 (zCls_m c2) (zfy_fx f3)
  obtain ⟨h4, e4, c4, B4, f4⟩ := lw_4 (d := 0) hz h3 B3 c3
  obtain ⟨h5, e5, c5, f5⟩ := lw_5 (d := 0) hz h3 B4 c4
  have B5 := zBs_f B4 (zCls_m c4) (zfy_fx f5)
  obtain ⟨h6, e6, c6, f6⟩ := lw_6 (d := 0) (b := b) c5
  have B6 := zBs_f B5 (zCls_m c5) (zfy_fx f6)
  obtain ⟨h7, e7, s7, s7', t7⟩ := lo_4 (d := 0) (x2 := .val (.int (nI 6))) hz h3 hx B6 (zCls_m c6) rfl
  have g2 := f2.2
  have g3 := f3.2
  have g4 := f4.2
  have g5 := f5.2
  have g6 := f6.2
  refine ⟨0 + 52, h7, by decide, ?_, by omega, by omega⟩
  have E : zcall zP sv (0 + 52) 215 [.ref b] h0 = some (.inl (some (.int (nI 1))), h7) := by rw [e1, e2, e3, e4, e5, e6, e7]
  exact E.trans (congrArg (fun x => (some (.inl (some (Value.int x)), h7) : zR)) (show nI 1 = 1 by decide +kernel))
end ZLO
