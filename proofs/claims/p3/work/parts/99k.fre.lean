section ZSK
variable {h : zH}
def yA0 : yA := ([], List.replicate 6 0, nI 2, 0)
def yS0 : yS := ([], List.replicate 6 0, nI 2, 0)
/-- what a new object stands for -/
def yw0 : yW := ([], -1, false, yA0, yA0, [], [])
theorem zRow_f {a n : Nat} (h1 : h.1 a = (4, [.ref (a + 1)])) (h2 : h.1 (a + 1) = (20, List.replicate n (.int 0))) (hn : n < 2 ^ 31) : zRow h a (List.replicate n 0) := ⟨h1, by rw [h2, List.map_replicate], by rw [List.length_replicate]; exact hn⟩
theorem zTre_f {t m : Nat} (c : h.1 t = (6, [.ref (t + 1), .ref (t + 3), .ref (t + 5), .ref (t + 7), .int (nI m), .int 0])) (r1 : zRow h (t + 1) (List.replicate m 0)) (r2 : zRow h (t + 3) (List.replicate m 0)) (r3 : zRow h (t + 5) (List.replicate m 0)) (r4 : zRow h (t + 7) (List.replicate m 0)) : zTre h t m [] :=
  ⟨_, _, _, _, by rw [c, ← nI_0]; rfl, ⟨r1, r2, r3, r4⟩, ⟨List.length_replicate, List.length_replicate, List.length_replicate, List.length_replicate, Nat.zero_le _⟩, rfl, rfl, rfl, rfl⟩
theorem zSta_f {s : Nat} (c : h.1 s = (3, [.ref (s + 1), .int 0, .ref (s + 2), .int (nI 2), .int 0])) (f : h.1 (s + 1) = (25, List.replicate 6 .null)) (r : zRow h (s + 2) (List.replicate 6 0)) : zSta h s yS0 :=
  ⟨by rw [c, ← nI_0]; rfl, ⟨_, f, rfl, fun j hj => by
    rcases (show j = 0 ∨ j = 1 ∨ j = 2 ∨ j = 3 ∨ j = 4 ∨ j = 5 by omega) with rfl | rfl | rfl | rfl | rfl | rfl <;> rfl⟩, r, rfl, Nat.zero_le _⟩
theorem yAok_0 : yAok yA0 := ⟨Nat.zero_le _, fun t ht => absurd ht List.not_mem_nil, rfl⟩
theorem zAS_0 {m : Nat} : zAS h m yS0 yA0 := ⟨rfl, ⟨rfl, fun i a t hi => (by cases hi)⟩, yAok_0⟩
theorem zbnd {a b : Int32} : True := trivial
variable {S : Nat}
set_option maxRecDepth 10000 in
theorem zfr_his : zHis (zext h (zC0 h.2.1) S) (h.2.1 + 11) [] := by
  refine ⟨0, by decide, by rw [zr0_11, nI_0]; show _ = ((5, [.ref _, .int 0, .int (nI 0)]) : zC); rw [nI_0], zr0_12, fun k hk => ⟨yS0, ?_⟩, fun j S2 hj => (by cases hj), Nat.zero_le _⟩
  rcases (show k = 0 ∨ k = 1 ∨ k = 2 ∨ k = 3 ∨ k = 4 ∨ k = 5 ∨ k = 6 ∨ k = 7 by omega) with rfl | rfl | rfl | rfl | rfl | rfl | rfl | rfl
  · exact (zSta_f (zr0_13 (h := h) (S := S)) (zr0_14 (h := h) (S := S)) (zRow_f (n := 6) (zr0_15 (h := h) (S := S)) (zr0_16 (h := h) (S := S)) (by decide)))
  · exact (zSta_f (zr0_17 (h := h) (S := S)) (zr0_18 (h := h) (S := S)) (zRow_f (n := 6) (zr0_19 (h := h) (S := S)) (zr0_20 (h := h) (S := S)) (by decide)))
  · exact (zSta_f (zr0_21 (h := h) (S := S)) (zr0_22 (h := h) (S := S)) (zRow_f (n := 6) (zr0_23 (h := h) (S := S)) (zr0_24 (h := h) (S := S)) (by decide)))
  · exact (zSta_f (zr0_25 (h := h) (S := S)) (zr0_26 (h := h) (S := S)) (zRow_f (n := 6) (zr0_27 (h := h) (S := S)) (zr0_28 (h := h) (S := S)) (by decide)))
  · exact (zSta_f (zr0_29 (h := h) (S := S)) (zr0_30 (h := h) (S := S)) (zRow_f (n := 6) (zr0_31 (h := h) (S := S)) (zr0_32 (h := h) (S := S)) (by decide)))
  · exact (zSta_f (zr0_33 (h := h) (S := S)) (zr0_34 (h := h) (S := S)) (zRow_f (n := 6) (zr0_35 (h := h) (S := S)) (zr0_36 (h := h) (S := S)) (by decide)))
  · exact (zSta_f (zr0_37 (h := h) (S := S)) (zr0_38 (h := h) (S := S)) (zRow_f (n := 6) (zr0_39 (h := h) (S := S)) (zr0_40 (h := h) (S := S)) (by decide)))
  · exact (zSta_f (zr0_41 (h := h) (S := S)) (zr0_42 (h := h) (S := S)) (zRow_f (n := 6) (zr0_43 (h := h) (S := S)) (zr0_44 (h := h) (S := S)) (by decide)))
theorem zfr_par : zPar (zext h (zC0 h.2.1) S) (h.2.1 + 63) [] 0 [] := ⟨by rw [zr0_63, nI_0], ⟨by rw [zr0_64]; show _ = ((8, [.ref _, .int (nI 0)]) : zC); rw [nI_0], ⟨List.replicate 60 0, by rw [zr0_65, List.map_replicate], List.length_replicate, rfl⟩, Nat.zero_le _, fun x hx => absurd hx List.not_mem_nil⟩, (zTre_f (m := 60) (zr0_66 (h := h) (S := S)) (zRow_f (n := 60) (zr0_67 (h := h) (S := S)) (zr0_68 (h := h) (S := S)) (by decide)) (zRow_f (n := 60) (zr0_69 (h := h) (S := S)) (zr0_70 (h := h) (S := S)) (by decide)) (zRow_f (n := 60) (zr0_71 (h := h) (S := S)) (zr0_72 (h := h) (S := S)) (by decide)) (zRow_f (n := 60) (zr0_73 (h := h) (S := S)) (zr0_74 (h := h) (S := S)) (by decide)))⟩
set_option maxRecDepth 10000 in
theorem zfr_scr : zScr (zext h (zC0 h.2.1) S) h.2.1 := by
  refine ⟨⟨[], (zTre_f (m := 124) (zr0_45 (h := h) (S := S)) (zRow_f (n := 124) (zr0_46 (h := h) (S := S)) (zr0_47 (h := h) (S := S)) (by decide)) (zRow_f (n := 124) (zr0_48 (h := h) (S := S)) (zr0_49 (h := h) (S := S)) (by decide)) (zRow_f (n := 124) (zr0_50 (h := h) (S := S)) (zr0_51 (h := h) (S := S)) (by decide)) (zRow_f (n := 124) (zr0_52 (h := h) (S := S)) (zr0_53 (h := h) (S := S)) (by decide)))⟩, ⟨[], (zTre_f (m := 124) (zr0_54 (h := h) (S := S)) (zRow_f (n := 124) (zr0_55 (h := h) (S := S)) (zr0_56 (h := h) (S := S)) (by decide)) (zRow_f (n := 124) (zr0_57 (h := h) (S := S)) (zr0_58 (h := h) (S := S)) (by decide)) (zRow_f (n := 124) (zr0_59 (h := h) (S := S)) (zr0_60 (h := h) (S := S)) (by decide)) (zRow_f (n := 124) (zr0_61 (h := h) (S := S)) (zr0_62 (h := h) (S := S)) (by decide)))⟩, ⟨List.replicate 124 0, (zr0_75 (h := h) (S := S)), (zRow_f (n := 124) (zr0_76 (h := h) (S := S)) (zr0_77 (h := h) (S := S)) (by decide)), List.length_replicate⟩, ⟨_, _, _, (zr0_78 (h := h) (S := S)), (zRow_f (n := 124) (zr0_79 (h := h) (S := S)) (zr0_80 (h := h) (S := S)) (by decide)), (zRow_f (n := 124) (zr0_81 (h := h) (S := S)) (zr0_82 (h := h) (S := S)) (by decide)), (zRow_f (n := 124) (zr0_83 (h := h) (S := S)) (zr0_84 (h := h) (S := S)) (by decide)), List.length_replicate, List.length_replicate, List.length_replicate⟩, ⟨(zr0_85 (h := h) (S := S)), ⟨[], (zTre_f (m := 62) (zr0_86 (h := h) (S := S)) (zRow_f (n := 62) (zr0_87 (h := h) (S := S)) (zr0_88 (h := h) (S := S)) (by decide)) (zRow_f (n := 62) (zr0_89 (h := h) (S := S)) (zr0_90 (h := h) (S := S)) (by decide)) (zRow_f (n := 62) (zr0_91 (h := h) (S := S)) (zr0_92 (h := h) (S := S)) (by decide)) (zRow_f (n := 62) (zr0_93 (h := h) (S := S)) (zr0_94 (h := h) (S := S)) (by decide)))⟩, _, (zRow_f (n := 31) (zr0_95 (h := h) (S := S)) (zr0_96 (h := h) (S := S)) (by decide)), List.length_replicate⟩, ⟨_, _, (zr0_97 (h := h) (S := S))⟩, ⟨_, _, _, (zr0_98 (h := h) (S := S)), (zRow_f (n := 124) (zr0_99 (h := h) (S := S)) (zr0_100 (h := h) (S := S)) (by decide)), (zRow_f (n := 124) (zr0_101 (h := h) (S := S)) (zr0_102 (h := h) (S := S)) (by decide)), (zRow_f (n := 124) (zr0_103 (h := h) (S := S)) (zr0_104 (h := h) (S := S)) (by decide)), List.length_replicate, List.length_replicate, List.length_replicate⟩, ⟨_, (zRow_f (n := 62) (zr0_105 (h := h) (S := S)) (zr0_106 (h := h) (S := S)) (by decide)), List.length_replicate⟩, ⟨_, (zRow_f (n := 62) (zr0_107 (h := h) (S := S)) (zr0_108 (h := h) (S := S)) (by decide)), List.length_replicate⟩, ⟨_, (zRow_f (n := 62) (zr0_109 (h := h) (S := S)) (zr0_110 (h := h) (S := S)) (by decide)), List.length_replicate⟩, ⟨_, (zRow_f (n := 62) (zr0_111 (h := h) (S := S)) (zr0_112 (h := h) (S := S)) (by decide)), List.length_replicate⟩, ⟨_, (zRow_f (n := 62) (zr0_113 (h := h) (S := S)) (zr0_114 (h := h) (S := S)) (by decide)), List.length_replicate⟩, ⟨_, (zRow_f (n := 7) (zr0_115 (h := h) (S := S)) (zr0_116 (h := h) (S := S)) (by decide)), List.length_replicate, fun x hx => List.eq_of_mem_replicate hx⟩, _, (zRow_f (n := 11) (zr0_117 (h := h) (S := S)) (zr0_118 (h := h) (S := S)) (by decide)), List.length_replicate⟩
theorem zfr_cls : zCls (zext h (zC0 h.2.1) S) h.2.1 yw0 := by
  refine ⟨Nat.le_of_eq zr0_sz.symm, zr0_0, ⟨yS0, (zSta_f (zr0_3 (h := h) (S := S)) (zr0_4 (h := h) (S := S)) (zRow_f (n := 6) (zr0_5 (h := h) (S := S)) (zr0_6 (h := h) (S := S)) (by decide))), zAS_0⟩, ⟨yS0, (zSta_f (zr0_7 (h := h) (S := S)) (zr0_8 (h := h) (S := S)) (zRow_f (n := 6) (zr0_9 (h := h) (S := S)) (zr0_10 (h := h) (S := S)) (by decide))), zAS_0⟩, ⟨[], zfr_his, rfl, fun j S2 A hj => (by cases hj)⟩, ⟨0, [], zfr_par⟩, zfr_scr, ?_⟩
  refine ⟨h.2.1 + 2, List.replicate 16 0, 0, by rw [zr0_1]; show _ = ((2, [.ref _, .int 0, .int 0, .int (nI 0)]) : zC); rw [nI_0], by rw [zr0_2, List.map_replicate], Or.inl rfl, Nat.zero_le _, rfl, by rw [List.length_replicate]; decide, fun x hx => ?_⟩
  rw [List.eq_of_mem_replicate hx]
  decide +kernel
def yF0 (k : Nat) : Int32 := if k = 29 then -1 else 0
def yN0 : List Int32 := (List.replicate 387 0).set 1 (nI 2)
theorem yNw_0 : yNow yN0 yA0 := by
  refine ⟨by unfold yN0; rw [List.length_set, List.length_replicate], by rw [show nI (yA0).1.length = 0 from nI_0]; rfl, rfl, rfl, fun v x hv => ?_, fun i t hi => by cases hi⟩
  have hv6 : v < 6 := (List.getElem?_eq_some_iff.mp hv).1
  rcases (show v = 0 ∨ v = 1 ∨ v = 2 ∨ v = 3 ∨ v = 4 ∨ v = 5 by omega) with rfl | rfl | rfl | rfl | rfl | rfl
  · cases hv; rfl
  · cases hv; rfl
  · cases hv; rfl
  · cases hv; rfl
  · cases hv; rfl
  · cases hv; rfl
theorem zfr_scm : zScm (zext h (zC0 h.2.1) S) (h.2.1 + 119) := by
  refine ⟨⟨[], List.replicate 700 0, List.replicate 700 0, ((zr0_124 (h := h) (S := S))).trans (by rw [List.map_replicate]), ((zr0_125 (h := h) (S := S))).trans (by rw [List.map_replicate]), List.length_replicate, List.length_replicate, rfl, rfl, Nat.zero_le _⟩, ⟨[], List.replicate 700 0, List.replicate 700 0, ((zr0_126 (h := h) (S := S))).trans (by rw [List.map_replicate]), ((zr0_127 (h := h) (S := S))).trans (by rw [List.map_replicate]), List.length_replicate, List.length_replicate, rfl, rfl, Nat.zero_le _⟩, ?_, ⟨List.replicate 700 0, ((zr0_130 (h := h) (S := S))).trans (by rw [List.map_replicate]), List.length_replicate⟩, ⟨List.replicate 700 0, ((zr0_131 (h := h) (S := S))).trans (by rw [List.map_replicate]), List.length_replicate⟩, ⟨List.replicate 700 0, ((zr0_132 (h := h) (S := S))).trans (by rw [List.map_replicate]), List.length_replicate⟩, ⟨List.replicate 700 0, ((zr0_133 (h := h) (S := S))).trans (by rw [List.map_replicate]), List.length_replicate⟩, ⟨List.replicate 700 0, ((zr0_134 (h := h) (S := S))).trans (by rw [List.map_replicate]), List.length_replicate⟩⟩
  exact ⟨List.replicate 700 0, List.replicate 700 0, (zr0_129 (h := h) (S := S)).trans (by rw [List.map_replicate]), List.length_replicate, (zr0_128 (h := h) (S := S)).trans (by rw [List.map_replicate]), List.length_replicate⟩
set_option maxRecDepth 10000 in
theorem zfr_mdl : zMdl (zext h (zC0 h.2.1) S) (h.2.1 + 119) (yso yw0 []) 0 := by
  refine ⟨yF0, rfl, ⟨?_, ⟨yN0, ⟨?_, yNw_0.1⟩, yNw_0⟩, zfr_scm⟩, ⟨List.replicate 387 0, (zr0_121 (h := h) (S := S)).trans (by rw [List.map_replicate]), List.length_replicate⟩, ⟨⟨nI_0.symm, rfl, nI_0.symm, nI_0.symm, rfl, Nat.zero_le _⟩, ⟨List.replicate 3096 0, (zr0_122 (h := h) (S := S)).trans (by rw [List.map_replicate]), List.length_replicate, fun j A hj => (by cases hj)⟩, ⟨List.replicate 387 0, ⟨(zr0_123 (h := h) (S := S)).trans (by rw [List.map_replicate]), List.length_replicate⟩, fun q => (by cases q)⟩, ⟨List.replicate 700 0, (zr0_135 (h := h) (S := S)).trans (by rw [List.map_replicate]), List.length_replicate, rfl, Nat.zero_le _⟩, ⟨List.replicate 60 0, (zr0_136 (h := h) (S := S)).trans (by rw [List.map_replicate]), List.length_replicate, rfl, Nat.zero_le _⟩⟩, yAok_0⟩
  · exact zr0_119
  · rw [zr0_120]
    rfl
theorem yWok_0 : yWok yw0 := ⟨⟨2, by decide, by decide, rfl⟩, ⟨2, by decide, by decide, rfl⟩, fun A hA => absurd hA List.not_mem_nil, Or.inl rfl⟩
/-- the law's loop begins with the class and the model new -/
theorem zTi_0 {sv : Nat → Value} {b a1 a2 : Nat} {xs O T : List Int32} (hb : b < h.2.1) (hx : h.1 b = (28, xs.map Value.int)) (s1 : sv 1 = .ref a1) (s2 : sv 2 = .ref a2) (g1 : h.1 a1 = (27, O.map Value.int)) (g2 : h.1 a2 = (27, T.map Value.int)) (o1 : O.length = 100) (t1 : T.length = 100) (b1 : a1 < h.2.1) (b2 : a2 < h.2.1) : zTi sv (zext h (zC0 h.2.1) S) h.2.1 b xs yw0 [] 0 :=
  ⟨zfr_cls, zfr_mdl, yWok_0, fun x hx => absurd hx List.not_mem_nil, ⟨hb, (zext_lo hb).trans hx⟩, ⟨_, zr0_137⟩, ⟨_, zr0_138⟩, a1, a2, O, T, s1, s2, (zext_lo b1).trans g1, (zext_lo b2).trans g2, o1, t1, b1, b2⟩
end ZSK
