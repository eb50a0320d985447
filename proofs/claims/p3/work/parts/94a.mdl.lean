def yout (w : yW) : List Int32 := w.2.2.2.2.2.2
def zTx (h : zH) (a n : Nat) (cs : List Int32) : Prop := ∃ B : List Int32, h.1 a = (21, B.map Value.int) ∧ B.length = n ∧ B.take cs.length = cs ∧ cs.length ≤ n
theorem zTx_cg {h h' : zH} {a n : Nat} {cs : List Int32} (ht : zTx h a n cs) (h1 : h'.1 a = h.1 a) : zTx h' a n cs := by
  obtain ⟨B, b1, b2⟩ := ht
  exact ⟨B, h1.trans b1, b2⟩
/-- the part of the model that a change leaves -/
def zRst (h : zH) (m : Nat) (F : Nat → Int32) (w : yW) : Prop := (F 3 = nI (yhis w).length ∧ F 5 = yb w.2.2.1 ∧ F 24 = nI (yout w).length ∧ F 26 = nI w.1.length ∧ F 29 = w.2.1 ∧ (yhis w).length ≤ 8) ∧ zKep h (m + 3) (yhis w) ∧ (∃ S, zTab h (m + 4) S ∧ (w.2.2.1 = true → yNow S (ykep w))) ∧ zTx h (m + 16) 700 (yout w) ∧ zTx h (m + 17) 60 w.1
/-- the model stands for w; thrown was th -/
def zMdl (h : zH) (m : Nat) (w : yW) (th : Int32) : Prop := ∃ F : Nat → Int32, F 31 = th ∧ zWk h m F (ycur w) ∧ (∃ T, zTab h (m + 2) T) ∧ zRst h m F w ∧ yAok (ycur w)
def zmw (m : Nat) (h h' : zH) : Prop := (∀ q, q < m ∨ m + 18 ≤ q → h'.1 q = h.1 q) ∧ h'.2 = h.2
theorem zmw_rfl {m : Nat} {h : zH} : zmw m h h := ⟨fun _ _ => rfl, rfl⟩
theorem zmw_tr {m : Nat} {h h' h'' : zH} (h1 : zmw m h h') (h2 : zmw m h' h'') : zmw m h h'' := ⟨fun q a => (h2.1 q a).trans (h1.1 q a), h2.2.trans h1.2⟩
theorem zwf_mw {m : Nat} {h h' : zH} (h1 : zwf m h h') : zmw m h h' := ⟨fun q a => h1.1 q (by omega) (by omega) (by omega), h1.2⟩
theorem zRst_cg {h h' : zH} {m : Nat} {F F' : Nat → Int32} {w : yW} (hr : zRst h m F w) (hf : F' 3 = F 3 ∧ F' 5 = F 5 ∧ F' 24 = F 24 ∧ F' 26 = F 26 ∧ F' 29 = F 29) (h3 : h'.1 (m + 3) = h.1 (m + 3)) (h4 : h'.1 (m + 4) = h.1 (m + 4)) (h16 : h'.1 (m + 16) = h.1 (m + 16)) (h17 : h'.1 (m + 17) = h.1 (m + 17)) : zRst h' m F' w := by
  obtain ⟨⟨a1, a2, a3, a4, a5, a6⟩, b, ⟨S, c1, c2⟩, e1, e2⟩ := hr
  obtain ⟨f1, f2, f3, f4, f5⟩ := hf
  exact ⟨⟨f1.trans a1, f2.trans a2, f3.trans a3, f4.trans a4, f5.trans a5, a6⟩, zKep_cg b h3, ⟨S, zTab_cg c1 h4, c2⟩, zTx_cg e1 h16, zTx_cg e2 h17⟩
theorem zRst_wf {h h' : zH} {m : Nat} {F F' : Nat → Int32} {w : yW} (hr : zRst h m F w) (hf : yff F F') (hw : zwf m h h') : zRst h' m F' w := zRst_cg hr ⟨hf.1, hf.2.1, hf.2.2.1, hf.2.2.2.1, hf.2.2.2.2.1⟩ (hw.1 _ (by omega) (by omega) (by omega)) (hw.1 _ (by omega) (by omega) (by omega)) (hw.1 _ (by omega) (by omega) (by omega)) (hw.1 _ (by omega) (by omega) (by omega))
theorem zWk_cg {h h' : zH} {m : Nat} {F F' : Nat → Int32} {A : yA} (hw : zWk h m F A) (h0 : h'.1 m = (13, zMF m F')) (hk : ∀ q, q = m + 1 ∨ (m + 5 ≤ q ∧ q < m + 16) → h'.1 q = h.1 q) : zWk h' m F' A := by
  obtain ⟨_, ⟨N, n1, n2⟩, ⟨p, p1⟩, ⟨p', p2⟩, ⟨S, T, s1, s2, s3, s4⟩, c2, c3, c4, c5, c6⟩ := hw
  exact ⟨h0, ⟨N, zTab_cg n1 (hk _ (by omega)), n2⟩, ⟨p, zLst_cg p1 (hk _ (by omega)) (hk _ (by omega))⟩, ⟨p', zLst_cg p2 (hk _ (by omega)) (hk _ (by omega))⟩, ⟨S, T, (hk _ (by omega)).trans s1, s2, (hk _ (by omega)).trans s3, s4⟩, zArr_cg c2 (hk _ (by omega)), zArr_cg c3 (hk _ (by omega)), zArr_cg c4 (hk _ (by omega)), zArr_cg c5 (hk _ (by omega)), zArr_cg c6 (hk _ (by omega))⟩
section ZML
variable {sv : Nat → Value} {d : Nat} {m : Nat} {F : Nat → Int32} {h : zH} {w : yW} {th : Int32}
theorem zM_try (hM : zMdl h m w th) : ∃ (h1 : zH) (F1 : Nat → Int32) (T : List Int32), zcall zP sv (d + 1) 200 [.ref m] h = some (.inl none, h1) ∧ zWk h1 m F1 (ycur w) ∧ F1 31 = 0 ∧ zTab h1 (m + 2) T ∧ yNow T (ycur w) ∧ zRst h1 m F1 w ∧ yAok (ycur w) ∧ zmw m h h1 := by
  obtain ⟨F, _, hw, ⟨T, hT⟩, hr, hA⟩ := hM
  obtain ⟨hm, ⟨N, hN, hn⟩, hs⟩ := id hw
  refine ⟨_, yup F 31 0, N, e_200 hm hN hT, zWk_cg hw (by rw [zup_ne (by omega), zup_at]) (fun q hq => by rw [zup_ne (by omega), zup_ne (by omega)]), yup_eq, ⟨zup_at, hN.2⟩, hn, zRst_cg hr ⟨yup_ne (by omega), yup_ne (by omega), yup_ne (by omega), yup_ne (by omega), yup_ne (by omega)⟩ (by rw [zup_ne (by omega), zup_ne (by omega)]) (by rw [zup_ne (by omega), zup_ne (by omega)]) (by rw [zup_ne (by omega), zup_ne (by omega)]) (by rw [zup_ne (by omega), zup_ne (by omega)]), hA, ⟨fun q hq => by rw [zup_ne (by omega), zup_ne (by omega)], rfl⟩⟩
theorem zM_fail {T : List Int32} {no : Nat} (hw : zWk h m F (ycur w)) (hT : zTab h (m + 2) T) (hr : zRst h m F w) (hA : yAok (ycur w)) (h0 : 0 < no) (h1 : no < 100) : ∃ h', zcall zP sv (d + 2) 202 [.ref m, .int (nI no)] h = some (.inl (some (.int 0)), h') ∧ zMdl h' m w (nI no) ∧ zmw m h h' := by
  have hm := hw.1
  refine ⟨zup h m (13, zMF m (yup F 31 (nI no))), c_202x (sv := sv) (d := d) hm h0 (by omega), ⟨yup F 31 (nI no), yup_eq, zWk_cg hw zup_at (fun q hq => zup_ne (by omega)), ⟨T, zTab_cg hT (zup_ne (by omega))⟩, zRst_cg hr ⟨yup_ne (by omega), yup_ne (by omega), yup_ne (by omega), yup_ne (by omega), yup_ne (by omega)⟩ (zup_ne (by omega)) (zup_ne (by omega)) (zup_ne (by omega)) (zup_ne (by omega)), hA⟩, ⟨fun q hq => zup_ne (by omega), rfl⟩⟩
theorem zM_ok {T : List Int32} {A : yA} (hw : zWk h m F A) (h31 : F 31 = 0) (hT : zTab h (m + 2) T) (hn : yNow T (ycur w)) (hr : zRst h m F w) (hA : yAok A) : ∃ h', zcall zP sv (d + 1) 202 [.ref m, .int 0] h = some (.inl (some (.int (F 30))), h') ∧ zMdl h' m (ysc (yrec w) A) 0 ∧ zmw m h h' := by
  have hm := hw.1
  obtain ⟨⟨a1, a2, a3, a4, a5, a6⟩, b, ⟨S, c1, c2⟩, e1, e2⟩ := hr
  obtain ⟨h', e, g1, g2, g3, g4⟩ := e_202 (sv := sv) (d := d) hm a1 a6 hT hn b
  refine ⟨h', e, ⟨yup F 3 (nI ((ycur w :: yhis w).take 8).length), (yup_ne (by omega)).trans h31, zWk_cg hw g1 (fun q hq => g3 q (by omega) (by omega)), ⟨T, zTab_cg hT (g3 _ (by omega) (by omega))⟩, ⟨⟨yup_eq, (yup_ne (by omega)).trans a2, (yup_ne (by omega)).trans a3, (yup_ne (by omega)).trans a4, (yup_ne (by omega)).trans a5, ?_⟩, g2, ⟨S, zTab_cg c1 (g3 _ (by omega) (by omega)), c2⟩, zTx_cg e1 (g3 _ (by omega) (by omega)), zTx_cg e2 (g3 _ (by omega) (by omega))⟩, hA⟩, ⟨fun q hq => g3 q (by omega) (by omega), g4⟩⟩
  show ((ycur w :: yhis w).take 8).length ≤ 8
  rw [List.length_take]
  omega
end ZML
