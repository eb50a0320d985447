section ZMN
variable {sv : Nat → Value} {d : Nat} {m : Nat} {F : Nat → Int32} {h : zH} {w : yW} {th : Int32}
theorem e_2370 {x0 : Int32} {no : Nat} {A : yA} {ans : Int32} (hM : zMdl h m w th) (hno : no < 100) (hA : no = 0 → yAok A) (hA2 : 0 < no → A = ycur w) (hW : ∀ (h1 : zH) (F1 : Nat → Int32), zWk h1 m F1 (ycur w) → zWo (zcall zP sv (d + 24) 236 [.ref m, .int x0] h1) m h1 F1 no A ans) : zMC m h (zcall zP sv (d + 25) 237 [.ref m, .int x0] h) (if no = 0 then ans else 0) (if no = 0 then ysc (yrec w) A else w) (nI no) := by
  obtain ⟨h1, h2, h3, e1, e2, e3, r0, r1, r2, g1, g2⟩ := zM_do (sv := sv) (d := d) (C := zcall zP sv (d + 24) 236 [.ref m, .int x0]) hM hno hA hA2 hW
  refine ⟨h3, ?_, g1, g2⟩
  have e2' : zcall zP sv (d + 24) 236 [.ref m, .int x0] h1 = _ := e2
  simp only [zc_237, zs_237_0, zs_237_0n, zs_237_1, zs_237_4, zs_237_4n, zs_237_5, zs_237_5n, zs_237_6, zs_237_7, zs_237_10, zs_237_13, r0, r1, r2, e1, e2', e3, zbk_v, zts_s, zts_n, List.cons_append, List.nil_append]
theorem e_2390 {x0 : Int32} {no : Nat} {A : yA} {ans : Int32} (hM : zMdl h m w th) (hno : no < 100) (hA : no = 0 → yAok A) (hA2 : 0 < no → A = ycur w) (hW : ∀ (h1 : zH) (F1 : Nat → Int32), zWk h1 m F1 (ycur w) → zWo (zcall zP sv (d + 24) 238 [.ref m, .int x0] h1) m h1 F1 no A ans) : zMC m h (zcall zP sv (d + 25) 239 [.ref m, .int x0] h) (if no = 0 then ans else 0) (if no = 0 then ysc (yrec w) A else w) (nI no) := by
  obtain ⟨h1, h2, h3, e1, e2, e3, r0, r1, r2, g1, g2⟩ := zM_do (sv := sv) (d := d) (C := zcall zP sv (d + 24) 238 [.ref m, .int x0]) hM hno hA hA2 hW
  refine ⟨h3, ?_, g1, g2⟩
  have e2' : zcall zP sv (d + 24) 238 [.ref m, .int x0] h1 = _ := e2
  simp only [zc_239, zs_239_0, zs_239_0n, zs_239_1, zs_239_4, zs_239_4n, zs_239_5, zs_239_5n, zs_239_6, zs_239_7, zs_239_10, zs_239_13, r0, r1, r2, e1, e2', e3, zbk_v, zts_s, zts_n, List.cons_append, List.nil_append]
theorem e_2410 {x0 x1 : Int32} {no : Nat} {A : yA} {ans : Int32} (hM : zMdl h m w th) (hno : no < 100) (hA : no = 0 → yAok A) (hA2 : 0 < no → A = ycur w) (hW : ∀ (h1 : zH) (F1 : Nat → Int32), zWk h1 m F1 (ycur w) → zWo (zcall zP sv (d + 24) 240 [.ref m, .int x0, .int x1] h1) m h1 F1 no A ans) : zMC m h (zcall zP sv (d + 25) 241 [.ref m, .int x0, .int x1] h) (if no = 0 then ans else 0) (if no = 0 then ysc (yrec w) A else w) (nI no) := by
  obtain ⟨h1, h2, h3, e1, e2, e3, r0, r1, r2, g1, g2⟩ := zM_do (sv := sv) (d := d) (C := zcall zP sv (d + 24) 240 [.ref m, .int x0, .int x1]) hM hno hA hA2 hW
  refine ⟨h3, ?_, g1, g2⟩
  have e2' : zcall zP sv (d + 24) 240 [.ref m, .int x0, .int x1] h1 = _ := e2
  simp only [zc_241, zs_241_0, zs_241_0n, zs_241_1, zs_241_4, zs_241_4n, zs_241_5, zs_241_5n, zs_241_6, zs_241_7, zs_241_8, zs_241_11, zs_241_14, r0, r1, r2, e1, e2', e3, zbk_v, zts_s, zts_n, List.cons_append, List.nil_append]
theorem e_2440 {x0 x1 x2 : Int32} {no : Nat} {A : yA} {ans : Int32} (hM : zMdl h m w th) (hno : no < 100) (hA : no = 0 → yAok A) (hA2 : 0 < no → A = ycur w) (hW : ∀ (h1 : zH) (F1 : Nat → Int32), zWk h1 m F1 (ycur w) → zWo (zcall zP sv (d + 24) 243 [.ref m, .int x0, .int x1, .int x2] h1) m h1 F1 no A ans) : zMC m h (zcall zP sv (d + 25) 244 [.ref m, .int x0, .int x1, .int x2] h) (if no = 0 then ans else 0) (if no = 0 then ysc (yrec w) A else w) (nI no) := by
  obtain ⟨h1, h2, h3, e1, e2, e3, r0, r1, r2, g1, g2⟩ := zM_do (sv := sv) (d := d) (C := zcall zP sv (d + 24) 243 [.ref m, .int x0, .int x1, .int x2]) hM hno hA hA2 hW
  refine ⟨h3, ?_, g1, g2⟩
  have e2' : zcall zP sv (d + 24) 243 [.ref m, .int x0, .int x1, .int x2] h1 = _ := e2
  simp only [zc_244, zs_244_0, zs_244_0n, zs_244_1, zs_244_4, zs_244_4n, zs_244_5, zs_244_5n, zs_244_6, zs_244_7, zs_244_8, zs_244_9, zs_244_12, zs_244_15, r0, r1, r2, e1, e2', e3, zbk_v, zts_s, zts_n, List.cons_append, List.nil_append]
theorem e_2460 {x0 x1 : Int32} {no : Nat} {A : yA} {ans : Int32} (hM : zMdl h m w th) (hno : no < 100) (hA : no = 0 → yAok A) (hA2 : 0 < no → A = ycur w) (hW : ∀ (h1 : zH) (F1 : Nat → Int32), zWk h1 m F1 (ycur w) → zWo (zcall zP sv (d + 24) 245 [.ref m, .int x0, .int x1] h1) m h1 F1 no A ans) : zMC m h (zcall zP sv (d + 25) 246 [.ref m, .int x0, .int x1] h) (if no = 0 then ans else 0) (if no = 0 then ysc (yrec w) A else w) (nI no) := by
  obtain ⟨h1, h2, h3, e1, e2, e3, r0, r1, r2, g1, g2⟩ := zM_do (sv := sv) (d := d) (C := zcall zP sv (d + 24) 245 [.ref m, .int x0, .int x1]) hM hno hA hA2 hW
  refine ⟨h3, ?_, g1, g2⟩
  have e2' : zcall zP sv (d + 24) 245 [.ref m, .int x0, .int x1] h1 = _ := e2
  simp only [zc_246, zs_246_0, zs_246_0n, zs_246_1, zs_246_4, zs_246_4n, zs_246_5, zs_246_5n, zs_246_6, zs_246_7, zs_246_8, zs_246_11, zs_246_14, r0, r1, r2, e1, e2', e3, zbk_v, zts_s, zts_n, List.cons_append, List.nil_append]
theorem e_2480 {x0 : Int32} {no : Nat} {A : yA} {ans : Int32} (hM : zMdl h m w th) (hno : no < 100) (hA : no = 0 → yAok A) (hA2 : 0 < no → A = ycur w) (hW : ∀ (h1 : zH) (F1 : Nat → Int32), zWk h1 m F1 (ycur w) → zWo (zcall zP sv (d + 24) 247 [.ref m, .int x0] h1) m h1 F1 no A ans) : zMC m h (zcall zP sv (d + 25) 248 [.ref m, .int x0] h) (if no = 0 then ans else 0) (if no = 0 then ysc (yrec w) A else w) (nI no) := by
  obtain ⟨h1, h2, h3, e1, e2, e3, r0, r1, r2, g1, g2⟩ := zM_do (sv := sv) (d := d) (C := zcall zP sv (d + 24) 247 [.ref m, .int x0]) hM hno hA hA2 hW
  refine ⟨h3, ?_, g1, g2⟩
  have e2' : zcall zP sv (d + 24) 247 [.ref m, .int x0] h1 = _ := e2
  simp only [zc_248, zs_248_0, zs_248_0n, zs_248_1, zs_248_4, zs_248_4n, zs_248_5, zs_248_5n, zs_248_6, zs_248_7, zs_248_10, zs_248_13, r0, r1, r2, e1, e2', e3, zbk_v, zts_s, zts_n, List.cons_append, List.nil_append]
end ZMN
