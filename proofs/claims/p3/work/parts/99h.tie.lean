section ZSH
variable {sv : Nat → Value} {m b : Nat} {xs : List Int32}
theorem zMdl_fr {h h' : zH} {m : Nat} {w : yW} {th : Int32} (hM : zMdl h m w th) (hf : ∀ q, m ≤ q → q < m + 18 → h'.1 q = h.1 q) : zMdl h' m w th := by
  obtain ⟨F, f31, hw, ⟨T, hT⟩, hr, hA⟩ := hM
  exact ⟨F, f31, zWk_cg hw ((hf m (by omega) (by omega)).trans hw.1) (fun q hq => hf q (by omega) (by omega)), ⟨T, zTab_cg hT (hf _ (by omega) (by omega))⟩, zRst_cg hr ⟨rfl, rfl, rfl, rfl, rfl⟩ (hf _ (by omega) (by omega)) (hf _ (by omega) (by omega)) (hf _ (by omega) (by omega)) (hf _ (by omega) (by omega)), hA⟩
theorem zCls_fr {h h' : zH} {m : Nat} {w : yW} (hc : zCls h m w) (hf : ∀ q, q < m + 119 ∨ m + 139 ≤ q → h'.1 q = h.1 q) (hs : h'.2.1 = h.2.1) : zCls h' m w := by
  refine zCls_q hc (fun q a b => hf q (by omega)) (fun q a b => hf q (by omega)) ⟨fun q a b => hf q (by omega), by omega⟩ (zScr_cg hc.2.2.2.2.2.2.1 (fun q a b => hf q (by omega)) (fun q a b => hf q (by omega)))
def yRg (A : yA) : Prop := ∃ M, 1 ≤ M ∧ M ≤ 4 ∧ A.2.2.1 = nI M
def yWok (w : yW) : Prop := yRg (ycur w) ∧ yRg (ykep w) ∧ (∀ A, A ∈ yhis w → yRg A) ∧ (w.2.1 = -1 ∨ ¬ w.2.1 < 0)
def zDm (sv : Nat → Value) (h : zH) (m : Nat) : Prop := ∃ (a1 a2 : Nat) (O T : List Int32), sv 1 = .ref a1 ∧ sv 2 = .ref a2 ∧ h.1 a1 = (27, O.map Value.int) ∧ h.1 a2 = (27, T.map Value.int) ∧ O.length = 100 ∧ T.length = 100 ∧ a1 < m ∧ a2 < m
/-- the class stands for w1, the model for w but for its output o2 -/
def zTj (sv : Nat → Value) (h : zH) (m b : Nat) (xs : List Int32) (w1 w : yW) (o2 : List Int32) (th : Int32) : Prop := zCls h m w1 ∧ zMdl h (m + 119) (yso w o2) th ∧ yWok w1 ∧ (∀ x, x ∈ o2 → ychr x) ∧ (b < m ∧ h.1 b = (28, xs.map Value.int)) ∧ (∃ l, h.1 (m + 137) = (22, [.long l])) ∧ (∃ l, h.1 (m + 138) = (23, [.double l])) ∧ zDm sv h m
def zTi (sv : Nat → Value) (h : zH) (m b : Nat) (xs : List Int32) (w : yW) (o2 : List Int32) (th : Int32) : Prop := zTj sv h m b xs w w o2 th
theorem zDm_g {h : zH} (hD : zDm sv h m) (hm : m ≤ h.2.1) : zDg sv h := by
  obtain ⟨a1, a2, O, T, s1, s2, g1, g2, o1, t1, b1, b2⟩ := hD
  exact ⟨a1, a2, O, T, s1, s2, g1, g2, o1, t1, by omega, by omega⟩
def zgr (h h' : zH) : Prop := h.2.1 ≤ h'.2.1 ∧ h'.2.1 ≤ h.2.1 + 1000 ∧ h'.2.2 ≤ h.2.2 + 2000
variable {h : zH} {w w1 : yW} {o2 : List Int32} {th : Int32}
theorem zTj_c {h1 : zH} {N K : Nat} (T : zTi sv h m b xs w o2 th) (hc : zCls h1 m w1) (hf : zfy m N K h h1) (hk : yWok w1) : zTj sv h1 m b xs w1 w o2 th := by
  obtain ⟨t1, t2, t3, t4, ⟨t5, t6⟩, ⟨l, t7⟩, ⟨l', t8⟩, a1, a2, O, T', s1, s2, g1, g2, o1, u1, b1, b2⟩ := T
  exact ⟨hc, zMdl_fr t2 (fun q q1 q2 => hf.1 q (by omega)), hk, t4, ⟨t5, by rw [hf.1 _ (by omega), t6]⟩, ⟨l, by rw [hf.1 _ (by omega), t7]⟩, ⟨l', by rw [hf.1 _ (by omega), t8]⟩, a1, a2, O, T', s1, s2, by rw [hf.1 _ (by omega), g1], by rw [hf.1 _ (by omega), g2], o1, u1, b1, b2⟩
theorem zTj_o {h1 : zH} {y : Int64} (T : zTj sv h1 m b xs w1 w o2 th) : zTj sv (zup h1 (m + 137) (22, [.long y])) m b xs w1 w o2 th := by
  obtain ⟨t1, t2, t3, t4, ⟨t5, t6⟩, ⟨l, t7⟩, ⟨l', t8⟩, a1, a2, O, T', s1, s2, g1, g2, o1, u1, b1, b2⟩ := T
  exact ⟨zCls_fr t1 (fun q hq => zup_ne (by omega)) rfl, zMdl_fr t2 (fun q q1 q2 => zup_ne (by omega)), t3, t4, ⟨t5, by rw [zup_ne (by omega), t6]⟩, ⟨y, zup_at⟩, ⟨l', by rw [zup_ne (by omega), t8]⟩, a1, a2, O, T', s1, s2, by rw [zup_ne (by omega), g1], by rw [zup_ne (by omega), g2], o1, u1, b1, b2⟩
theorem zTj_d {h1 : zH} {y : UInt64} (T : zTj sv h1 m b xs w1 w o2 th) : zTj sv (zup h1 (m + 138) (23, [.double y])) m b xs w1 w o2 th := by
  obtain ⟨t1, t2, t3, t4, ⟨t5, t6⟩, ⟨l, t7⟩, ⟨l', t8⟩, a1, a2, O, T', s1, s2, g1, g2, o1, u1, b1, b2⟩ := T
  exact ⟨zCls_fr t1 (fun q hq => zup_ne (by omega)) rfl, zMdl_fr t2 (fun q q1 q2 => zup_ne (by omega)), t3, t4, ⟨t5, by rw [zup_ne (by omega), t6]⟩, ⟨l, by rw [zup_ne (by omega), t7]⟩, ⟨y, zup_at⟩, a1, a2, O, T', s1, s2, by rw [zup_ne (by omega), g1], by rw [zup_ne (by omega), g2], o1, u1, b1, b2⟩
theorem zTj_m {h1 h2 : zH} {o3 : List Int32} {th' : Int32} (T : zTj sv h1 m b xs w1 w o2 th) (hM : zMdl h2 (m + 119) (yso w1 o3) th') (hf : zmw (m + 119) h1 h2) (ho : ∀ x, x ∈ o3 → ychr x) : zTi sv h2 m b xs w1 o3 th' := by
  obtain ⟨t1, t2, t3, t4, ⟨t5, t6⟩, ⟨l, t7⟩, ⟨l', t8⟩, a1, a2, O, T', s1, s2, g1, g2, o1, u1, b1, b2⟩ := T
  exact ⟨zCls_fr t1 (fun q hq => hf.1 q (by omega)) (by rw [hf.2]), hM, t3, ho, ⟨t5, by rw [hf.1 _ (by omega), t6]⟩, ⟨l, by rw [hf.1 _ (by omega), t7]⟩, ⟨l', by rw [hf.1 _ (by omega), t8]⟩, a1, a2, O, T', s1, s2, by rw [hf.1 _ (by omega), g1], by rw [hf.1 _ (by omega), g2], o1, u1, b1, b2⟩
/-- one call of the law: the helper's answer k in A, the model's answer bv in Bf; what the two stand for then; the out arrays -/
def zSt (sv : Nat → Value) (m b : Nat) (xs : List Int32) (h : zH) (A : zR) (Bf : zH → zR) (k : Nat) (bv : Value) (w1 : yW) (o3 : List Int32) (th' : Int32) (out : Nat × Value) : Prop := ∃ h1 h2, A = some (.inl (some (.int (nI k))), h1) ∧ (∀ X : zR, zrc (h1.1 (m + 119)) 13 X = X) ∧ h1.1 b = (28, xs.map Value.int) ∧ Bf h1 = some (.inl (some bv), h2) ∧ zTi sv h2 m b xs w1 o3 th' ∧ zgr h h2 ∧ (k = 0 → (out.1 = 22 → h2.1 (m + 137) = (22, [out.2])) ∧ (out.1 = 23 → h2.1 (m + 138) = (23, [out.2])))
theorem zgr_of {N K : Nat} {h1 h2 : zH} (hf : zfy m N K h h1) (h2f : h2.2 = h1.2) (hN : N ≤ 1000) (hK : K ≤ 2000) : zgr h h2 := ⟨by rw [h2f]; exact hf.2.1, by rw [h2f]; have := hf.2.2.1; omega, by rw [h2f]; have := hf.2.2.2; omega⟩
/-- a call that answers a number -/
theorem zst_v {A rc : zR} {Bf : zH → zR} {N K : Nat} {y : Int64} {v : Value} {bv : Value} {o3 : List Int32} {th' : Int32} (T : zTi sv h m b xs w o2 th) (hC : ∃ h1, rc = some (.inl (some v), h1) ∧ zCls h1 m w1 ∧ zfy m N K h h1) (hN : N ≤ 1000) (hK : K ≤ 2000) (hk : yWok w1) (hP : ∀ h1 l, rc = some (.inl (some v), h1) → h1.1 (m + 137) = (22, [.long l]) → A = some (.inl (some (.int 0)), zup h1 (m + 137) (22, [.long y]))) (hM : ∀ h1, zMdl h1 (m + 119) (yso w o2) th → ∃ h2, Bf h1 = some (.inl (some bv), h2) ∧ zMdl h2 (m + 119) (yso w1 o3) th' ∧ zmw (m + 119) h1 h2) (ho : ∀ x, x ∈ o3 → ychr x) : zSt sv m b xs h A Bf 0 bv w1 o3 th' (22, .long y) := by
  obtain ⟨h1, e1, c1, f1⟩ := hC
  have T1 := zTj_c T c1 f1 hk
  obtain ⟨l, t7⟩ := T1.2.2.2.2.2.1
  have e2 := hP h1 l e1 t7
  have T2 := zTj_o (y := y) T1
  obtain ⟨h2, e3, m2, f2⟩ := hM _ T2.2.1
  exact ⟨_, h2, by rw [e2, nI_0], fun X => zMdl_rc T2.2.1, T2.2.2.2.2.1.2, e3, zTj_m T2 m2 f2 ho, zgr_of f1 f2.2 hN hK, fun _ => ⟨fun _ => by rw [f2.1 _ (by omega), zup_at], fun q => by cases q⟩⟩
theorem zst_d {A rc : zR} {Bf : zH → zR} {N K : Nat} {y : UInt64} {v : Value} {bv : Value} {o3 : List Int32} {th' : Int32} (T : zTi sv h m b xs w o2 th) (hC : ∃ h1, rc = some (.inl (some v), h1) ∧ zCls h1 m w1 ∧ zfy m N K h h1) (hN : N ≤ 1000) (hK : K ≤ 2000) (hk : yWok w1) (hP : ∀ h1 l, rc = some (.inl (some v), h1) → h1.1 (m + 138) = (23, [.double l]) → A = some (.inl (some (.int 0)), zup h1 (m + 138) (23, [.double y]))) (hM : ∀ h1, zMdl h1 (m + 119) (yso w o2) th → ∃ h2, Bf h1 = some (.inl (some bv), h2) ∧ zMdl h2 (m + 119) (yso w1 o3) th' ∧ zmw (m + 119) h1 h2) (ho : ∀ x, x ∈ o3 → ychr x) : zSt sv m b xs h A Bf 0 bv w1 o3 th' (23, .double y) := by
  obtain ⟨h1, e1, c1, f1⟩ := hC
  have T1 := zTj_c T c1 f1 hk
  obtain ⟨l, t7⟩ := T1.2.2.2.2.2.2.1
  have e2 := hP h1 l e1 t7
  have T2 := zTj_d (y := y) T1
  obtain ⟨h2, e3, m2, f2⟩ := hM _ T2.2.1
  exact ⟨_, h2, by rw [e2, nI_0], fun X => zMdl_rc T2.2.1, T2.2.2.2.2.1.2, e3, zTj_m T2 m2 f2 ho, zgr_of f1 f2.2 hN hK, fun _ => ⟨fun q => (by cases q), fun _ => by rw [f2.1 _ (by omega), zup_at]⟩⟩
/-- a call that throws -/
theorem zst_e {A rc : zR} {Bf : zH → zR} {N K E k : Nat} {bv : Value} {o3 : List Int32} {th' : Int32} {out : Nat × Value} (T : zTi sv h m b xs w o2 th) (hC : ∃ h1, rc = some (.inr E, h1) ∧ zCls h1 m w1 ∧ zfy m N K h h1) (hN : N ≤ 1000) (hK : K ≤ 2000) (hk : yWok w1) (hP : ∀ h1, rc = some (.inr E, h1) → A = some (.inl (some (.int (nI k))), h1)) (hk0 : 0 < k) (hM : ∀ h1, zMdl h1 (m + 119) (yso w o2) th → ∃ h2, Bf h1 = some (.inl (some bv), h2) ∧ zMdl h2 (m + 119) (yso w1 o3) th' ∧ zmw (m + 119) h1 h2) (ho : ∀ x, x ∈ o3 → ychr x) : zSt sv m b xs h A Bf k bv w1 o3 th' out := by
  obtain ⟨h1, e1, c1, f1⟩ := hC
  have T1 := zTj_c T c1 f1 hk
  have e2 := hP h1 e1
  obtain ⟨h2, e3, m2, f2⟩ := hM _ T1.2.1
  exact ⟨_, h2, e2, fun X => zMdl_rc T1.2.1, T1.2.2.2.2.1.2, e3, zTj_m T1 m2 f2 ho, zgr_of f1 f2.2 hN hK, fun z => absurd z (by omega)⟩
/-- a call without a helper -/
def zSq (sv : Nat → Value) (m b : Nat) (xs : List Int32) (h : zH) (A : zR) (Bf : zH → zR) (v bv : Value) (w1 : yW) (o3 : List Int32) (th' : Int32) : Prop := ∃ h1 h2, A = some (.inl (some v), h1) ∧ (∀ X : zR, zrc (h1.1 (m + 119)) 13 X = X) ∧ h1.1 b = (28, xs.map Value.int) ∧ Bf h1 = some (.inl (some bv), h2) ∧ zTi sv h2 m b xs w1 o3 th' ∧ zgr h h2
theorem zsq_v {A : zR} {Bf : zH → zR} {N K : Nat} {v bv : Value} {o3 : List Int32} {th' : Int32} (T : zTi sv h m b xs w o2 th) (hC : ∃ h1, A = some (.inl (some v), h1) ∧ zCls h1 m w1 ∧ zfy m N K h h1) (hN : N ≤ 1000) (hK : K ≤ 2000) (hk : yWok w1) (hM : ∀ h1, zMdl h1 (m + 119) (yso w o2) th → ∃ h2, Bf h1 = some (.inl (some bv), h2) ∧ zMdl h2 (m + 119) (yso w1 o3) th' ∧ zmw (m + 119) h1 h2) (ho : ∀ x, x ∈ o3 → ychr x) : zSq sv m b xs h A Bf v bv w1 o3 th' := by
  obtain ⟨h1, e1, c1, f1⟩ := hC
  have T1 := zTj_c T c1 f1 hk
  obtain ⟨h2, e3, m2, f2⟩ := hM _ T1.2.1
  exact ⟨_, h2, e1, fun X => zMdl_rc T1.2.1, T1.2.2.2.2.1.2, e3, zTj_m T1 m2 f2 ho, zgr_of f1 f2.2 hN hK⟩
theorem zEnd_y {r : zR} {N K : Nat} {o : zO} (hc : zCls h m w) (he : zEnd h m r N K o w1) : ∃ h1, r = some (o, h1) ∧ zCls h1 m w1 ∧ zfy m N K h h1 := by
  obtain ⟨h', e, c, f⟩ := he
  exact ⟨h', e, c, zfy_fx hc.1 f⟩
theorem yWok_w {w2 : yW} (hk : yWok w) (h1 : yRg (ycur w2)) (h2 : ykep w2 = ykep w) (h3 : yhis w2 = (ycur w :: yhis w).take 8) (h4 : w2.2.1 = w.2.1) : yWok w2 := by
  refine ⟨h1, by rw [h2]; exact hk.2.1, fun A hA => ?_, by rw [h4]; exact hk.2.2.2⟩
  rw [h3] at hA
  have := List.mem_of_mem_take hA
  rw [List.mem_cons] at this
  rcases this with rfl | z
  · exact hk.1
  · exact hk.2.2.1 A z
end ZSH
